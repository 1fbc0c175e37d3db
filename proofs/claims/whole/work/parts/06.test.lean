theorem cw_X9_isBelow : Cond.code yX9_isBelow cX9_isBelow 2 (some .boolean) ∈ UW := (uw_of 334 (by decide +kernel) rfl)
theorem cw_J9_floorDiv_7cf53 : Cond.code yJ9_floorDiv_7cf53 cJ9_floorDiv_7cf53 3 (some .int) ∈ UW := (uw_of 468 (by decide +kernel) rfl)
theorem fl_X8_24 : FL RX8 24 9 4 2 (.array .int) true := ⟨RX8, "ChartRoom$Wire", TX8, 6, tyX8, rfl, iu_9, tyX8_ok, nmX8, by decide, rfl, by decide, (uw_of 638 (by decide +kernel) rfl), Or.inl rfl, tyX8_ok 4 (by decide), rfl, (fun _ => rfl), rfl⟩
theorem cw_X8_countFillings : Cond.code yX8_countFillings cX8_countFillings 4 (some .int) ∈ UW := (uw_of 486 (by decide +kernel) rfl)
theorem cw_X8_filled : Cond.code yX8_filled cX8_filled 10 (some .int) ∈ UW := (uw_of 490 (by decide +kernel) rfl)
theorem ini_ChartRoom : Cond.initialized "ChartRoom" ∈ UW := (uw_of 84 (by decide +kernel) rfl)
theorem cb_X9_79 : CBS RX9 79 yX9_isBelow cX9_isBelow 2 (some .boolean) 2 := ⟨⟨cw_X9_isBelow, ini_ChartRoom, by decide, (uw_of 332 (by decide +kernel) rfl)⟩, (uw_of 333 (by decide +kernel) rfl)⟩
theorem cw_X9_isPlace : Cond.code yX9_isPlace cX9_isPlace 2 (some .boolean) ∈ UW := (uw_of 337 (by decide +kernel) rfl)
theorem fl_X7_15 : FL RX7 15 8 1 0 .int false := ⟨RX7, "ChartRoom$Sheet", TX7, 3, tyX7, rfl, iu_8, tyX7_ok, nmX7, by decide, rfl, by decide, (uw_of 278 (by decide +kernel) rfl), Or.inl rfl, tyX7_ok 1 (by decide), rfl, (fun h => by cases h), rfl⟩
theorem cw_X7_hasCells : Cond.code yX7_hasCells cX7_hasCells 4 (some .boolean) ∈ UW := (uw_of 598 (by decide +kernel) rfl)
theorem fl_X7_11 : FL RX7 11 8 0 0 .int false := ⟨RX7, "ChartRoom$Sheet", TX7, 3, tyX7, rfl, iu_8, tyX7_ok, nmX7, by decide, rfl, by decide, (uw_of 276 (by decide +kernel) rfl), Or.inl rfl, tyX7_ok 0 (by decide), rfl, (fun h => by cases h), rfl⟩
theorem cw_X7_isEmpty : Cond.code yX7_isEmpty cX7_isEmpty 1 (some .boolean) ∈ UW := (uw_of 594 (by decide +kernel) rfl)
theorem ini_ChartRoom_Sheet : Cond.initialized "ChartRoom$Sheet" ∈ UW := (uw_of 92 (by decide +kernel) rfl)
theorem cb_X7_28 : CBV RX7 28 yX7_isEmpty cX7_isEmpty 1 (some .boolean) 0 8 := ⟨⟨cw_X7_isEmpty, ini_ChartRoom_Sheet, by decide, (uw_of 591 (by decide +kernel) rfl)⟩, (uw_of 592 (by decide +kernel) rfl), (uw_of 593 (by decide +kernel) rfl), by decide, TX7, 3, rfl⟩
theorem cb_X7_32 : CBV RX7 32 yX7_hasCells cX7_hasCells 4 (some .boolean) 2 8 := ⟨⟨cw_X7_hasCells, ini_ChartRoom_Sheet, by decide, (uw_of 595 (by decide +kernel) rfl)⟩, (uw_of 596 (by decide +kernel) rfl), (uw_of 597 (by decide +kernel) rfl), by decide, TX7, 3, rfl⟩
theorem cw_X7_faultOfTaking : Cond.code yX7_faultOfTaking cX7_faultOfTaking 5 (some .int) ∈ UW := (uw_of 590 (by decide +kernel) rfl)
theorem cw_J9_floorMod_7cf53 : Cond.code yJ9_floorMod_7cf53 cJ9_floorMod_7cf53 3 (some .int) ∈ UW := (uw_of 471 (by decide +kernel) rfl)
theorem fl_X6_9 : FL RX6 9 7 0 0 .int true := ⟨RX6, "ChartRoom$Post", TX6, 6, tyX6, rfl, iu_7, tyX6_ok, nmX6, by decide, rfl, by decide, (uw_of 351 (by decide +kernel) rfl), Or.inl rfl, tyX6_ok 0 (by decide), rfl, (fun _ => rfl), rfl⟩
theorem ini_java_lang_Math : Cond.initialized "java/lang/Math" ∈ UW := (uw_of 96 (by decide +kernel) rfl)
theorem cb_X6_38 : CBS RX6 38 yJ9_floorDiv_7cf53 cJ9_floorDiv_7cf53 3 (some .int) 2 := ⟨⟨cw_J9_floorDiv_7cf53, ini_java_lang_Math, by decide, (uw_of 466 (by decide +kernel) rfl)⟩, (uw_of 467 (by decide +kernel) rfl)⟩
theorem cb_X6_44 : CBS RX6 44 yJ9_floorMod_7cf53 cJ9_floorMod_7cf53 3 (some .int) 2 := ⟨⟨cw_J9_floorMod_7cf53, ini_java_lang_Math, by decide, (uw_of 469 (by decide +kernel) rfl)⟩, (uw_of 470 (by decide +kernel) rfl)⟩
theorem cw_X6_along : Cond.code yX6_along cX6_along 6 (some .int) ∈ UW := (uw_of 465 (by decide +kernel) rfl)
theorem fl_X6_15 : FL RX6 15 7 1 0 .int true := ⟨RX6, "ChartRoom$Post", TX6, 6, tyX6, rfl, iu_7, tyX6_ok, nmX6, by decide, rfl, by decide, (uw_of 353 (by decide +kernel) rfl), Or.inl rfl, tyX6_ok 1 (by decide), rfl, (fun _ => rfl), rfl⟩
theorem fl_X6_24 : FL RX6 24 7 4 0 .int true := ⟨RX6, "ChartRoom$Post", TX6, 6, tyX6, rfl, iu_7, tyX6_ok, nmX6, by decide, rfl, by decide, (uw_of 359 (by decide +kernel) rfl), Or.inl rfl, tyX6_ok 4 (by decide), rfl, (fun _ => rfl), rfl⟩
theorem ini_ChartRoom_Post : Cond.initialized "ChartRoom$Post" ∈ UW := (uw_of 94 (by decide +kernel) rfl)
theorem cb_X6_30 : CBV RX6 30 yX6_along cX6_along 6 (some .int) 3 7 := ⟨⟨cw_X6_along, ini_ChartRoom_Post, by decide, (uw_of 462 (by decide +kernel) rfl)⟩, (uw_of 464 (by decide +kernel) rfl), (uw_of 4 (by decide +kernel) rfl), by decide, TX6, 6, rfl⟩
theorem fl_X6_18 : FL RX6 18 7 2 0 .int true := ⟨RX6, "ChartRoom$Post", TX6, 6, tyX6, rfl, iu_7, tyX6_ok, nmX6, by decide, rfl, by decide, (uw_of 355 (by decide +kernel) rfl), Or.inl rfl, tyX6_ok 2 (by decide), rfl, (fun _ => rfl), rfl⟩
theorem fl_X6_27 : FL RX6 27 7 5 0 .int true := ⟨RX6, "ChartRoom$Post", TX6, 6, tyX6, rfl, iu_7, tyX6_ok, nmX6, by decide, rfl, by decide, (uw_of 361 (by decide +kernel) rfl), Or.inl rfl, tyX6_ok 5 (by decide), rfl, (fun _ => rfl), rfl⟩
theorem cb_X6_34 : CNS RX6 34 yX9_isPlace "ChartRoom" cX9_isPlace 2 (some .boolean) 2 := ⟨⟨cw_X9_isPlace, ini_ChartRoom, by decide, (uw_of 472 (by decide +kernel) rfl)⟩, (uw_of 336 (by decide +kernel) rfl)⟩
theorem cw_X6_placeAt : Cond.code yX6_placeAt cX6_placeAt 4 (some .int) ∈ UW := (uw_of 461 (by decide +kernel) rfl)
theorem fl_X6_21 : FL RX6 21 7 3 0 .int true := ⟨RX6, "ChartRoom$Post", TX6, 6, tyX6, rfl, iu_7, tyX6_ok, nmX6, by decide, rfl, by decide, (uw_of 357 (by decide +kernel) rfl), Or.inl rfl, tyX6_ok 3 (by decide), rfl, (fun _ => rfl), rfl⟩
theorem cw_X6_init : Cond.code yX6_init cX6_init 7 (none) ∈ UW := (uw_of 349 (by decide +kernel) rfl)
theorem fl_X7_18 : FL RX7 18 8 2 2 (.array .int) true := ⟨RX7, "ChartRoom$Sheet", TX7, 3, tyX7, rfl, iu_8, tyX7_ok, nmX7, by decide, rfl, by decide, (uw_of 279 (by decide +kernel) rfl), Or.inl rfl, tyX7_ok 2 (by decide), rfl, (fun _ => rfl), rfl⟩
theorem cw_X7_write : Cond.code yX7_write cX7_write 3 (none) ∈ UW := (uw_of 1011 (by decide +kernel) rfl)
theorem ini_ChartRoom_Wire : Cond.initialized "ChartRoom$Wire" ∈ UW := (uw_of 102 (by decide +kernel) rfl)
theorem cb_X8_35 : CBV RX8 35 yX8_countFillings cX8_countFillings 4 (some .int) 1 9 := ⟨⟨cw_X8_countFillings, ini_ChartRoom_Wire, by decide, (uw_of 482 (by decide +kernel) rfl)⟩, (uw_of 484 (by decide +kernel) rfl), (uw_of 6 (by decide +kernel) rfl), by decide, TX8, 6, rfl⟩
theorem cb_X8_38 : CBV RX8 38 yX8_filled cX8_filled 10 (some .int) 2 9 := ⟨⟨cw_X8_filled, ini_ChartRoom_Wire, by decide, (uw_of 487 (by decide +kernel) rfl)⟩, (uw_of 489 (by decide +kernel) rfl), (uw_of 7 (by decide +kernel) rfl), by decide, TX8, 6, rfl⟩
theorem cw_X8_countRight : Cond.code yX8_countRight cX8_countRight 5 (some .int) ∈ UW := (uw_of 627 (by decide +kernel) rfl)
abbrev rmX9_isBelow : Room := { frames := 0, cells := 0, slots := 0, locals := 0 }
abbrev rmJ9_floorDiv_7cf53 : Room := { frames := 0, cells := 0, slots := 0, locals := 0 }
abbrev rmX8_countFillings : Room := { frames := 0, cells := 0, slots := 0, locals := 0 }
abbrev rmX8_filled : Room := { frames := 0, cells := 0, slots := 0, locals := 0 }
abbrev rmX9_isPlace : Room := { frames := 1, cells := 0, slots := 0, locals := 21 }
abbrev rmX7_hasCells : Room := { frames := 0, cells := 0, slots := 0, locals := 0 }
abbrev rmX7_isEmpty : Room := { frames := 0, cells := 0, slots := 0, locals := 0 }
abbrev rmX7_faultOfTaking : Room := { frames := 1, cells := 0, slots := 0, locals := 23 }
abbrev rmJ9_floorMod_7cf53 : Room := { frames := 0, cells := 0, slots := 0, locals := 0 }
abbrev rmX6_along : Room := { frames := 1, cells := 0, slots := 0, locals := 22 }
abbrev rmX6_placeAt : Room := { frames := 2, cells := 0, slots := 0, locals := 47 }
abbrev rmX6_init : Room := { frames := 1, cells := 0, slots := 0, locals := 20 }
abbrev rmX7_write : Room := { frames := 0, cells := 0, slots := 0, locals := 0 }
abbrev rmX8_countRight : Room := { frames := 1, cells := 0, slots := 0, locals := 29 }
noncomputable def bX9_isBelow_14 (z0 : Int32) : Option Int32 :=
  (o_zb z0).bind fun z14 =>
  some z14
noncomputable def bX9_isBelow_13 : Option Int32 :=
  bX9_isBelow_14 (0 : Int32)
noncomputable def bX9_isBelow_0 (x0 : Int32) (x1 : Int32) : Option Int32 :=
  if x0 < 0 then
    bX9_isBelow_13
  else
    if x1 ≤ x0 then
      bX9_isBelow_13
    else
      bX9_isBelow_14 (1 : Int32)
noncomputable def fX9_isBelow (a0 : Int32) (a1 : Int32) : Option Int32 := bX9_isBelow_0 a0 a1
noncomputable def bJ9_floorDiv_7cf53_21 (x2 : Int32) : Option Int32 :=
  some x2
noncomputable def bJ9_floorDiv_7cf53_0 (x0 : Int32) (x1 : Int32) : Option Int32 :=
  (o_nz x1).bind fun w2 =>
  (some ((x0 / x1))).bind fun v3 =>
  if 0 ≤ (x0 ^^^ x1) then
    bJ9_floorDiv_7cf53_21 v3
  else
    if (v3 * x1) = x0 then
      bJ9_floorDiv_7cf53_21 v3
    else
      some (v3 - (1 : Int32))
noncomputable def fJ9_floorDiv_7cf53 (a0 : Int32) (a1 : Int32) : Option Int32 := bJ9_floorDiv_7cf53_0 a0 a1
noncomputable def bX8_countFillings_0 (S : MS) (x0 : Nat) (x1 : Int32) : Option ((Nat × Int32 × Int32 × Int32) ⊕ Int32) :=
  some (.inl (x0, x1, (1 : Int32), (0 : Int32)))
noncomputable def bX8_countFillings_27 (S : MS) (x0 : Nat) (x1 : Int32) (x2 : Int32) (x3 : Int32) : Option ((Nat × Int32 × Int32 × Int32) ⊕ Int32) :=
  (some (x3 + 1)).bind fun v27 =>
  some (.inl (x0, x1, x2, v27))
noncomputable def bX8_countFillings_4 (S : MS) (x0 : Nat) (x1 : Int32) (x2 : Int32) (x3 : Int32) : Option ((Nat × Int32 × Int32 × Int32) ⊕ Int32) :=
  if (4 : Int32) ≤ x3 then
    some (.inr x2)
  else
    (o_gP S x0 9 4).bind fun v10 =>
    (o_ld S v10 12 (((5 : Int32) * x1) + x3)).bind fun v18 =>
    if 0 ≤ v18 then
      bX8_countFillings_27 S x0 x1 x2 x3
    else
      (some ((x2 * (10 : Int32)))).bind fun v26 =>
      bX8_countFillings_27 S x0 x1 v26 x3
noncomputable def sX8_countFillings (S : MS) : (Nat × Int32 × Int32 × Int32) → Option ((Nat × Int32 × Int32 × Int32) ⊕ Int32) := (fun t => bX8_countFillings_4 S t.1 t.2.1 t.2.2.1 t.2.2.2)
noncomputable def hX8_countFillings_4 (S : MS) (x0 : Nat) (x1 : Int32) (x2 : Int32) (x3 : Int32) : Option Int32 := lim (sX8_countFillings S) (x0, x1, x2, x3)
theorem qX8_countFillings_4 (S : MS) (x0 : Nat) (x1 : Int32) (x2 : Int32) (x3 : Int32) : hX8_countFillings_4 S x0 x1 x2 x3 = fin (sX8_countFillings S) (bX8_countFillings_4 S x0 x1 x2 x3) := lim_eq _ _
noncomputable def fX8_countFillings (S : MS) (a0 : Nat) (a1 : Int32) : Option Int32 := fin (sX8_countFillings S) (bX8_countFillings_0 S a0 a1)
noncomputable def bX8_filled_0 (S : MS) (x0 : Nat) (x1 : Int32) (x2 : Int32) : Option ((Nat × Int32 × Int32 × Int32 × Int32 × Int32 × Int32 × Int32) ⊕ Int32) :=
  (some (((5 : Int32) * x1))).bind fun v3 =>
  some (.inl (x0, x1, v3, x2, (0 : Int32), (1 : Int32), (0 : Int32), (3 : Int32)))
noncomputable def bX8_filled_89 (S : MS) (x0 : Nat) (x1 : Int32) (x3 : Int32) (x4 : Int32) (x5 : Int32) (x6 : Int32) (x8 : Int32) (z0 : Int32) (z1 : Int32) : Option ((Nat × Int32 × Int32 × Int32 × Int32 × Int32 × Int32 × Int32) ⊕ Int32) :=
  (some ((z0 + z1))).bind fun v90 =>
  (some (x8 + (-1))).bind fun v92 =>
  some (.inl (x0, x1, x3, x4, x5, x6, v90, v92))
noncomputable def bX8_filled_54 (S : MS) (x0 : Nat) (x1 : Int32) (x3 : Int32) (x4 : Int32) (x5 : Int32) (x6 : Int32) (x7 : Int32) (x8 : Int32) (x9 : Int32) : Option ((Nat × Int32 × Int32 × Int32 × Int32 × Int32 × Int32 × Int32) ⊕ Int32) :=
  (some ((x5 + (x6 * x9)))).bind fun v62 =>
  (some ((x6 * (10 : Int32)))).bind fun v69 =>
  if (x8 - x8 / (2 : Int32) * (2 : Int32)) = 0 then
    bX8_filled_89 S x0 x1 x3 x4 v62 v69 x8 x7 x9
  else
    bX8_filled_89 S x0 x1 x3 x4 v62 v69 x8 x7 ((3 : Int32) * x9)
noncomputable def bX8_filled_145 (S : MS) (x5 : Int32) (x7 : Int32) : Option ((Nat × Int32 × Int32 × Int32 × Int32 × Int32 × Int32 × Int32) ⊕ Int32) :=
  some (.inr (((10 : Int32) * x5) + (x7 - x7 / (10 : Int32) * (10 : Int32))))
noncomputable def bX8_filled_128 (S : MS) (x1 : Int32) (x5 : Int32) (x7 : Int32) : Option ((Nat × Int32 × Int32 × Int32 × Int32 × Int32 × Int32 × Int32) ⊕ Int32) :=
  if x1 = 0 then
    if (x5 / (100 : Int32)) ≤ (36 : Int32) then
      bX8_filled_145 S x5 x7
    else
      some (.inr (-9 : Int32))
  else
    bX8_filled_145 S x5 x7
noncomputable def bX8_filled_19 (S : MS) (x0 : Nat) (x1 : Int32) (x3 : Int32) (x4 : Int32) (x5 : Int32) (x6 : Int32) (x7 : Int32) (x8 : Int32) : Option ((Nat × Int32 × Int32 × Int32 × Int32 × Int32 × Int32 × Int32) ⊕ Int32) :=
  if x8 < 0 then
    (o_gP S x0 9 4).bind fun v99 =>
    (o_ld S v99 12 ((x3 + (5 : Int32)) - (1 : Int32))).bind fun v107 =>
    if v107 < 0 then
      bX8_filled_128 S x1 x5 x7
    else
      if v107 = (x7 - x7 / (10 : Int32) * (10 : Int32)) then
        bX8_filled_128 S x1 x5 x7
      else
        some (.inr (-9 : Int32))
  else
    (o_gP S x0 9 4).bind fun v25 =>
    (o_ld S v25 12 (x3 + x8)).bind fun v32 =>
    if 0 ≤ v32 then
      bX8_filled_54 S x0 x1 x3 x4 x5 x6 x7 x8 v32
    else
      (some ((x4 - x4 / (10 : Int32) * (10 : Int32)))).bind fun v45 =>
      (some ((x4 / (10 : Int32)))).bind fun v52 =>
      bX8_filled_54 S x0 x1 x3 v52 x5 x6 x7 x8 v45
noncomputable def sX8_filled (S : MS) : (Nat × Int32 × Int32 × Int32 × Int32 × Int32 × Int32 × Int32) → Option ((Nat × Int32 × Int32 × Int32 × Int32 × Int32 × Int32 × Int32) ⊕ Int32) := (fun t => bX8_filled_19 S t.1 t.2.1 t.2.2.1 t.2.2.2.1 t.2.2.2.2.1 t.2.2.2.2.2.1 t.2.2.2.2.2.2.1 t.2.2.2.2.2.2.2)
noncomputable def hX8_filled_19 (S : MS) (x0 : Nat) (x1 : Int32) (x3 : Int32) (x4 : Int32) (x5 : Int32) (x6 : Int32) (x7 : Int32) (x8 : Int32) : Option Int32 := lim (sX8_filled S) (x0, x1, x3, x4, x5, x6, x7, x8)
theorem qX8_filled_19 (S : MS) (x0 : Nat) (x1 : Int32) (x3 : Int32) (x4 : Int32) (x5 : Int32) (x6 : Int32) (x7 : Int32) (x8 : Int32) : hX8_filled_19 S x0 x1 x3 x4 x5 x6 x7 x8 = fin (sX8_filled S) (bX8_filled_19 S x0 x1 x3 x4 x5 x6 x7 x8) := lim_eq _ _
noncomputable def fX8_filled (S : MS) (a0 : Nat) (a1 : Int32) (a2 : Int32) : Option Int32 := fin (sX8_filled S) (bX8_filled_0 S a0 a1 a2)
noncomputable def bX9_isPlace_23 (z0 : Int32) : Option Int32 :=
  (o_zb z0).bind fun z23 =>
  some z23
noncomputable def bX9_isPlace_22 : Option Int32 :=
  bX9_isPlace_23 (0 : Int32)
noncomputable def bX9_isPlace_0 (x0 : Int32) (x1 : Int32) : Option Int32 :=
  (fX9_isBelow x0 (12 : Int32)).bind fun v3 =>
  if v3 = 0 then
    bX9_isPlace_22
  else
    (fX9_isBelow x1 (12 : Int32)).bind fun v12 =>
    if v12 = 0 then
      bX9_isPlace_22
    else
      bX9_isPlace_23 (1 : Int32)
noncomputable def fX9_isPlace (a0 : Int32) (a1 : Int32) : Option Int32 := bX9_isPlace_0 a0 a1
noncomputable def bX7_hasCells_28 (S : MS) (z0 : Int32) : Option Int32 :=
  (o_zb z0).bind fun z28 =>
  some z28
noncomputable def bX7_hasCells_27 (S : MS) : Option Int32 :=
  bX7_hasCells_28 S (0 : Int32)
noncomputable def bX7_hasCells_0 (S : MS) (x0 : Nat) (x1 : Int32) (x2 : Int64) : Option Int32 :=
  if x1 < 0 then
    bX7_hasCells_27 S
  else
    if (lg_cmp x2 (0 : Int64)) < 0 then
      bX7_hasCells_27 S
    else
      (o_gI S x0 8 1).bind fun v15 =>
      if 0 < (lg_cmp ((x1.toInt64) + x2) (v15.toInt64)) then
        bX7_hasCells_27 S
      else
        bX7_hasCells_28 S (1 : Int32)
noncomputable def fX7_hasCells (S : MS) (a0 : Nat) (a1 : Int32) (a2 : Int64) : Option Int32 := bX7_hasCells_0 S a0 a1 a2
noncomputable def bX7_isEmpty_13 (S : MS) (z0 : Int32) : Option Int32 :=
  (o_zb z0).bind fun z13 =>
  some z13
noncomputable def bX7_isEmpty_0 (S : MS) (x0 : Nat) : Option Int32 :=
  (o_gI S x0 8 0).bind fun v1 =>
  if v1 = (-1 : Int32) then
    bX7_isEmpty_13 S (1 : Int32)
  else
    bX7_isEmpty_13 S (0 : Int32)
noncomputable def fX7_isEmpty (S : MS) (a0 : Nat) : Option Int32 := bX7_isEmpty_0 S a0
noncomputable def bX7_faultOfTaking_48 (S : MS) (z0 : Int32) : Option Int32 :=
  some z0
noncomputable def bX7_faultOfTaking_17 (S : MS) (x0 : Nat) (x2 : Int32) (x3 : Int64) : Option Int32 :=
  (o_is S x0 8).bind fun _ =>
  (fX7_isEmpty S x0).bind fun v18 =>
  if v18 = 0 then
    if 0 ≤ (lg_cmp x3 (0 : Int64)) then
      (o_is S x0 8).bind fun _ =>
      (fX7_hasCells S x0 x2 x3).bind fun v37 =>
      if v37 = 0 then
        bX7_faultOfTaking_48 S (3 : Int32)
      else
        bX7_faultOfTaking_48 S (0 : Int32)
    else
      some (4 : Int32)
  else
    some (1 : Int32)
noncomputable def bX7_faultOfTaking_0 (S : MS) (x0 : Nat) (x1 : Int32) (x2 : Int32) (x3 : Int64) : Option Int32 :=
  (o_is S x0 8).bind fun _ =>
  (fX7_isEmpty S x0).bind fun v1 =>
  if v1 = 0 then
    (o_gI S x0 8 0).bind fun v8 =>
    if v8 = x1 then
      bX7_faultOfTaking_17 S x0 x2 x3
    else
      some (2 : Int32)
  else
    bX7_faultOfTaking_17 S x0 x2 x3
noncomputable def fX7_faultOfTaking (S : MS) (a0 : Nat) (a1 : Int32) (a2 : Int32) (a3 : Int64) : Option Int32 := bX7_faultOfTaking_0 S a0 a1 a2 a3
noncomputable def bJ9_floorMod_7cf53_18 (x2 : Int32) : Option Int32 :=
  some x2
noncomputable def bJ9_floorMod_7cf53_0 (x0 : Int32) (x1 : Int32) : Option Int32 :=
  (o_nz x1).bind fun w2 =>
  (some ((x0 - x0 / x1 * x1))).bind fun v3 =>
  if 0 ≤ (x0 ^^^ x1) then
    bJ9_floorMod_7cf53_18 v3
  else
    if v3 = 0 then
      bJ9_floorMod_7cf53_18 v3
    else
      some (v3 + x1)
noncomputable def fJ9_floorMod_7cf53 (a0 : Int32) (a1 : Int32) : Option Int32 := bJ9_floorMod_7cf53_0 a0 a1
noncomputable def bX6_along_58 (S : MS) (z0 : Int32) : Option Int32 :=
  some z0
noncomputable def bX6_along_0 (S : MS) (x0 : Nat) (x1 : Int32) (x2 : Int32) (x3 : Int32) : Option Int32 :=
  (o_gI S x0 7 0).bind fun v1 =>
  if v1 = 0 then
    some x1
  else
    (fJ9_floorDiv_7cf53 (x2 * x3) (10 : Int32)).bind fun v15 =>
    (some ((x1 + v15))).bind fun v19 =>
    (o_gI S x0 7 0).bind fun v22 =>
    if v22 = (1 : Int32) then
      some v19
    else
      (fJ9_floorMod_7cf53 v19 (22 : Int32)).bind fun v36 =>
      if v36 ≤ (11 : Int32) then
        bX6_along_58 S v36
      else
        bX6_along_58 S ((22 : Int32) - v36)
noncomputable def fX6_along (S : MS) (a0 : Nat) (a1 : Int32) (a2 : Int32) (a3 : Int32) : Option Int32 := bX6_along_0 S a0 a1 a2 a3
noncomputable def bX6_placeAt_47 (S : MS) (z0 : Int32) : Option Int32 :=
  some z0
noncomputable def bX6_placeAt_0 (S : MS) (x0 : Nat) (x1 : Int32) : Option Int32 :=
  (o_gI S x0 7 1).bind fun v2 =>
  (o_gI S x0 7 4).bind fun v6 =>
  (o_is S x0 7).bind fun _ =>
  (fX6_along S x0 v2 v6 x1).bind fun v10 =>
  (o_gI S x0 7 2).bind fun v16 =>
  (o_gI S x0 7 5).bind fun v20 =>
  (o_is S x0 7).bind fun _ =>
  (fX6_along S x0 v16 v20 x1).bind fun v24 =>
  (fX9_isPlace v10 v24).bind fun v30 =>
  if v30 = 0 then
    bX6_placeAt_47 S (-9 : Int32)
  else
    bX6_placeAt_47 S (((12 : Int32) * v24) + v10)
noncomputable def fX6_placeAt (S : MS) (a0 : Nat) (a1 : Int32) : Option Int32 := bX6_placeAt_0 S a0 a1
noncomputable def bX6_init_0 (S : MS) (x0 : Nat) (x1 : Int32) (x2 : Int32) (x3 : Int32) (x4 : Int32) (x5 : Int32) (x6 : Int32) : Option MS :=
  (o_sI S x0 7 0 x1).bind fun S6 =>
  (o_sI S6 x0 7 1 x2).bind fun S11 =>
  (o_sI S11 x0 7 2 x3).bind fun S16 =>
  (o_sI S16 x0 7 3 x4).bind fun S22 =>
  (o_sI S22 x0 7 4 x5).bind fun S28 =>
  (o_sI S28 x0 7 5 x6).bind fun S34 =>
  some S34
noncomputable def fX6_init (S : MS) (a0 : Nat) (a1 : Int32) (a2 : Int32) (a3 : Int32) (a4 : Int32) (a5 : Int32) (a6 : Int32) : Option MS := bX6_init_0 S a0 a1 a2 a3 a4 a5 a6
noncomputable def bX7_write_61 (S : MS) : Option MS :=
  some S
noncomputable def bX7_write_0 (S : MS) (x0 : Nat) (x1 : Int32) (x2 : Int32) : Option MS :=
  (o_gI S x0 8 0).bind fun v1 =>
  if v1 = (0 : Int32) then
    (o_gP S x0 8 2).bind fun v33 =>
    (o_st S v33 12 x1 (x2.toInt8.toInt32)).bind fun S39 =>
    bX7_write_61 S39
  else
  if v1 = (1 : Int32) then
    (o_gP S x0 8 2).bind fun v44 =>
    (o_st S v44 12 x1 (x2.toInt16.toInt32)).bind fun S50 =>
    bX7_write_61 S50
  else
  (o_gP S x0 8 2).bind fun v55 =>
  (o_st S v55 12 x1 x2).bind fun S60 =>
  bX7_write_61 S60
noncomputable def fX7_write (S : MS) (a0 : Nat) (a1 : Int32) (a2 : Int32) : Option MS := bX7_write_0 S a0 a1 a2
noncomputable def bX8_countRight_0 (S : MS) (x0 : Nat) (x1 : Int32) : Option ((Nat × Int32 × Int32 × Int32 × Int32) ⊕ Int32) :=
  (o_is S x0 9).bind fun _ =>
  (fX8_countFillings S x0 x1).bind fun v4 =>
  some (.inl (x0, x1, (0 : Int32), v4, (0 : Int32)))
noncomputable def bX8_countRight_32 (S : MS) (x0 : Nat) (x1 : Int32) (x2 : Int32) (x3 : Int32) (x4 : Int32) : Option ((Nat × Int32 × Int32 × Int32 × Int32) ⊕ Int32) :=
  (some (x4 + 1)).bind fun v32 =>
  some (.inl (x0, x1, x2, x3, v32))
noncomputable def bX8_countRight_11 (S : MS) (x0 : Nat) (x1 : Int32) (x2 : Int32) (x3 : Int32) (x4 : Int32) : Option ((Nat × Int32 × Int32 × Int32 × Int32) ⊕ Int32) :=
  if x3 ≤ x4 then
    some (.inr x2)
  else
    (o_is S x0 9).bind fun _ =>
    (fX8_filled S x0 x1 x4).bind fun v21 =>
    if v21 = (-9 : Int32) then
      bX8_countRight_32 S x0 x1 x2 x3 x4
    else
      (some (x2 + 1)).bind fun v29 =>
      bX8_countRight_32 S x0 x1 v29 x3 x4
noncomputable def sX8_countRight (S : MS) : (Nat × Int32 × Int32 × Int32 × Int32) → Option ((Nat × Int32 × Int32 × Int32 × Int32) ⊕ Int32) := (fun t => bX8_countRight_11 S t.1 t.2.1 t.2.2.1 t.2.2.2.1 t.2.2.2.2)
noncomputable def hX8_countRight_11 (S : MS) (x0 : Nat) (x1 : Int32) (x2 : Int32) (x3 : Int32) (x4 : Int32) : Option Int32 := lim (sX8_countRight S) (x0, x1, x2, x3, x4)
theorem qX8_countRight_11 (S : MS) (x0 : Nat) (x1 : Int32) (x2 : Int32) (x3 : Int32) (x4 : Int32) : hX8_countRight_11 S x0 x1 x2 x3 x4 = fin (sX8_countRight S) (bX8_countRight_11 S x0 x1 x2 x3 x4) := lim_eq _ _
noncomputable def fX8_countRight (S : MS) (a0 : Nat) (a1 : Int32) : Option Int32 := fin (sX8_countRight S) (bX8_countRight_0 S a0 a1)
set_option maxHeartbeats 4000000 in
set_option maxRecDepth 100000 in
theorem wX9_isBelow_14 {p : Program} {l : Launch} {e : Env} {s : State} {m : MethodId} {args : Array Value} {below : List Frame} {meth : Method} {c : Code} {D : va_G} {cy : Nat → ClassId} (ad : Nat → Nat) (A : Nat → Prop) {r : Int32} {ls : Array Slot} {z0 : Int32} (C0 : CX p s m args meth c RX9 cX9_isBelow 2 D cy) (hr : meth.sig.returnType = some .boolean) (hF : bX9_isBelow_14 z0 = some r) (hl : lv_has ls 2 []) : W p l e rmX9_isBelow s m args below meth c s.heap [] 0 0 (MQ below (QcS (some (.int r))) args s 0 0 (fun _ => False)) (F0 m 14 ls [.int z0]) := by
  unfold bX9_isBelow_14 at hF
  obtain ⟨hx, hb, -, hown, -, hts, -⟩ := id C0
  obtain ⟨z14, hz, hF⟩ := ob hF
  have hz2 := (o_if hz).2
  refine vtopi hz2 ?_
  rw [hz2] at hz
  obtain rfl := (Option.some.inj hF)
  exact rt_SZ C0 hr hz dX9_isBelow_14
set_option maxHeartbeats 4000000 in
set_option maxRecDepth 100000 in
theorem wX9_isBelow_13 {p : Program} {l : Launch} {e : Env} {s : State} {m : MethodId} {args : Array Value} {below : List Frame} {meth : Method} {c : Code} {D : va_G} {cy : Nat → ClassId} (ad : Nat → Nat) (A : Nat → Prop) {r : Int32} {ls : Array Slot} (C0 : CX p s m args meth c RX9 cX9_isBelow 2 D cy) (hr : meth.sig.returnType = some .boolean) (hF : bX9_isBelow_13 = some r) (hl : lv_has ls 2 []) : W p l e rmX9_isBelow s m args below meth c s.heap [] 0 0 (MQ below (QcS (some (.int r))) args s 0 0 (fun _ => False)) (F0 m 13 ls []) := by
  unfold bX9_isBelow_13 at hF
  obtain ⟨hx, hb, -, hown, -, hts, -⟩ := id C0
  refine lv_iconst (v := (0 : Int32)) hx hb dX9_isBelow_13 (by decide) ?_
  exact wX9_isBelow_14 ad A C0 hr hF (lv_sub hl [] rfl)
set_option maxHeartbeats 4000000 in
set_option maxRecDepth 100000 in
theorem wX9_isBelow_0 {p : Program} {l : Launch} {e : Env} {s : State} {m : MethodId} {args : Array Value} {below : List Frame} {meth : Method} {c : Code} {D : va_G} {cy : Nat → ClassId} (ad : Nat → Nat) (A : Nat → Prop) {r : Int32} {ls : Array Slot} {x0 : Int32} {x1 : Int32} (C0 : CX p s m args meth c RX9 cX9_isBelow 2 D cy) (hr : meth.sig.returnType = some .boolean) (hF : bX9_isBelow_0 x0 x1 = some r) (hl : lv_has ls 2 [(0, .int x0), (1, .int x1)]) : W p l e rmX9_isBelow s m args below meth c s.heap [] 0 0 (MQ below (QcS (some (.int r))) args s 0 0 (fun _ => False)) (F0 m 0 ls []) := by
  unfold bX9_isBelow_0 at hF
  obtain ⟨hx, hb, -, hown, -, hts, -⟩ := id C0
  refine lv_iload_n hx hb dX9_isBelow_0 rfl (lv_at hl 0 rfl) ?_
  refine lv_if_lt (tgt := 13) hx hb dX9_isBelow_1 (by decide) (fun hc => ?_) (fun hc => ?_)
  · have hF := oi_t hc hF
    exact wX9_isBelow_13 ad A C0 hr hF (lv_sub hl [] rfl)
  · have hF := oi_f hc hF
    refine lv_iload_n hx hb dX9_isBelow_4 rfl (lv_at hl 0 rfl) ?_
    refine lv_iload_n hx hb dX9_isBelow_5 rfl (lv_at hl 1 rfl) ?_
    refine lv_icmp_ge (tgt := 13) hx hb dX9_isBelow_6 (by decide) (fun hc => ?_) (fun hc => ?_)
    · have hF := oi_t hc hF
      exact wX9_isBelow_13 ad A C0 hr hF (lv_sub hl [] rfl)
    · have hF := oi_f hc hF
      refine lv_iconst (v := (1 : Int32)) hx hb dX9_isBelow_9 (by decide) ?_
      refine lv_goto (tgt := 14) hx hb dX9_isBelow_10 (by decide) ?_
      exact wX9_isBelow_14 ad A C0 hr hF (lv_sub hl [] rfl)
set_option maxHeartbeats 4000000 in
set_option maxRecDepth 100000 in
theorem tX9_isBelow (l : Launch) (D : va_G) (cy : Nat → ClassId) (ad : Nat → Nat) {a0 : Int32} {a1 : Int32} {r : Int32} (h : fX9_isBelow a0 a1 = some r) : Met l yX9_isBelow [Cond.code yX9_isBelow cX9_isBelow 2 (some .boolean)] rmX9_isBelow (PcS D cy [.int a0, .int a1]) (QcS (some (.int r))) 0 0 (fun _ => False) := by
  refine met_S (by decide +kernel) cw_X9_isBelow (Nat.le_of_ble_eq_true rfl) ?_
  intro p e s m args below meth c ls C0 hr hl
  have hl : lv_has ls 2 [(0, .int a0), (1, .int a1)] := hl
  exact wX9_isBelow_0 ad (fun _ => False) C0 hr h hl
set_option maxHeartbeats 4000000 in
set_option maxRecDepth 100000 in
theorem wJ9_floorDiv_7cf53_21 {p : Program} {l : Launch} {e : Env} {s : State} {m : MethodId} {args : Array Value} {below : List Frame} {meth : Method} {c : Code} {D : va_G} {cy : Nat → ClassId} (ad : Nat → Nat) (A : Nat → Prop) {r : Int32} {ls : Array Slot} {x2 : Int32} (C0 : CX p s m args meth c RJ9 cJ9_floorDiv_7cf53 3 D cy) (hr : meth.sig.returnType = some .int) (hF : bJ9_floorDiv_7cf53_21 x2 = some r) (hl : lv_has ls 3 [(2, .int x2)]) : W p l e rmJ9_floorDiv_7cf53 s m args below meth c s.heap [] 0 0 (MQ below (QcS (some (.int r))) args s 0 0 (fun _ => False)) (F0 m 21 ls []) := by
  unfold bJ9_floorDiv_7cf53_21 at hF
  obtain ⟨hx, hb, -, hown, -, hts, -⟩ := id C0
  refine lv_iload_n hx hb dJ9_floorDiv_7cf53_21 rfl (lv_at hl 0 rfl) ?_
  obtain rfl := (Option.some.inj hF)
  exact rt_SI C0 hr dJ9_floorDiv_7cf53_22
set_option maxHeartbeats 4000000 in
set_option maxRecDepth 100000 in
theorem wJ9_floorDiv_7cf53_0 {p : Program} {l : Launch} {e : Env} {s : State} {m : MethodId} {args : Array Value} {below : List Frame} {meth : Method} {c : Code} {D : va_G} {cy : Nat → ClassId} (ad : Nat → Nat) (A : Nat → Prop) {r : Int32} {ls : Array Slot} {x0 : Int32} {x1 : Int32} (C0 : CX p s m args meth c RJ9 cJ9_floorDiv_7cf53 3 D cy) (hr : meth.sig.returnType = some .int) (hF : bJ9_floorDiv_7cf53_0 x0 x1 = some r) (hl : lv_has ls 3 [(0, .int x0), (1, .int x1)]) : W p l e rmJ9_floorDiv_7cf53 s m args below meth c s.heap [] 0 0 (MQ below (QcS (some (.int r))) args s 0 0 (fun _ => False)) (F0 m 0 ls []) := by
  unfold bJ9_floorDiv_7cf53_0 at hF
  obtain ⟨hx, hb, -, hown, -, hts, -⟩ := id C0
  refine lv_iload_n hx hb dJ9_floorDiv_7cf53_0 rfl (lv_at hl 0 rfl) ?_
  refine lv_iload_n hx hb dJ9_floorDiv_7cf53_1 rfl (lv_at hl 1 rfl) ?_
  obtain ⟨w2, hv, hF⟩ := ob hF
  refine lv_idiv hx hb dJ9_floorDiv_7cf53_2 (o_nz_ne hv) ?_
  obtain ⟨v3, hv, hF⟩ := ob hF
  have hv := vtI hv
  refine vtopi hv ?_
  refine lv_istore_n (lv' := [(2, .int v3), (0, .int x0), (1, .int x1)]) hx hb dJ9_floorDiv_7cf53_3 rfl hl (by decide) rfl (fun ls hl => ?_)
  refine lv_iload_n hx hb dJ9_floorDiv_7cf53_4 rfl (lv_at hl 1 rfl) ?_
  refine lv_iload_n hx hb dJ9_floorDiv_7cf53_5 rfl (lv_at hl 2 rfl) ?_
  refine lv_ixor hx hb dJ9_floorDiv_7cf53_6 ?_
  refine lv_if_ge (tgt := 21) hx hb dJ9_floorDiv_7cf53_7 (by decide) (fun hc => ?_) (fun hc => ?_)
  · have hF := oi_t hc hF
    exact wJ9_floorDiv_7cf53_21 ad A C0 hr hF (lv_sub hl [0] rfl)
  · have hF := oi_f hc hF
    refine lv_iload_n hx hb dJ9_floorDiv_7cf53_10 rfl (lv_at hl 0 rfl) ?_
    refine lv_iload_n hx hb dJ9_floorDiv_7cf53_11 rfl (lv_at hl 2 rfl) ?_
    refine lv_imul hx hb dJ9_floorDiv_7cf53_12 ?_
    refine lv_iload_n hx hb dJ9_floorDiv_7cf53_13 rfl (lv_at hl 1 rfl) ?_
    refine lv_icmp_eq (tgt := 21) hx hb dJ9_floorDiv_7cf53_14 (by decide) (fun hc => ?_) (fun hc => ?_)
    · have hF := oi_t hc hF
      exact wJ9_floorDiv_7cf53_21 ad A C0 hr hF (lv_sub hl [0] rfl)
    · have hF := oi_f hc hF
      refine lv_iload_n hx hb dJ9_floorDiv_7cf53_17 rfl (lv_at hl 0 rfl) ?_
      refine lv_iconst (v := (1 : Int32)) hx hb dJ9_floorDiv_7cf53_18 (by decide) ?_
      refine lv_isub hx hb dJ9_floorDiv_7cf53_19 ?_
      obtain rfl := (Option.some.inj hF)
      exact rt_SI C0 hr dJ9_floorDiv_7cf53_20
set_option maxHeartbeats 4000000 in
set_option maxRecDepth 100000 in
theorem tJ9_floorDiv_7cf53 (l : Launch) (D : va_G) (cy : Nat → ClassId) (ad : Nat → Nat) {a0 : Int32} {a1 : Int32} {r : Int32} (h : fJ9_floorDiv_7cf53 a0 a1 = some r) : Met l yJ9_floorDiv_7cf53 [Cond.code yJ9_floorDiv_7cf53 cJ9_floorDiv_7cf53 3 (some .int)] rmJ9_floorDiv_7cf53 (PcS D cy [.int a0, .int a1]) (QcS (some (.int r))) 0 0 (fun _ => False) := by
  refine met_S (by decide +kernel) cw_J9_floorDiv_7cf53 (Nat.le_of_ble_eq_true rfl) ?_
  intro p e s m args below meth c ls C0 hr hl
  have hl : lv_has ls 3 [(0, .int a0), (1, .int a1)] := hl
  exact wJ9_floorDiv_7cf53_0 ad (fun _ => False) C0 hr h hl
set_option maxHeartbeats 4000000 in
set_option maxRecDepth 100000 in
theorem wX8_countFillings_0 {p : Program} {l : Launch} {e : Env} {s : State} {m : MethodId} {args : Array Value} {below : List Frame} {meth : Method} {c : Code} {D : va_G} {cy : Nat → ClassId} (ad : Nat → Nat) (A : Nat → Prop) {S : MS} {r : Int32} {out : ((Nat × Int32 × Int32 × Int32) ⊕ Int32)} {ls : Array Slot} {x0 : Nat} {x1 : Int32} (C0 : CX p s m args meth c RX8 cX8_countFillings 4 D cy) (M : MW D cy ad A S s.heap) (hr : meth.sig.returnType = some .int) (hF : bX8_countFillings_0 S x0 x1 = some out) (hl : lv_has ls 4 [(0, .ref (ad x0)), (1, .int x1)]) (Kr : ∀ r9, out = .inr r9 → r9 = r) (Kh0 : ∀ (y0 : Nat) (y1 : Int32) (y2 : Int32) (y3 : Int32), out = .inl (y0, y1, y2, y3) → ∀ (ls1 : Array Slot), lv_has ls1 4 [(0, .ref (ad y0)), (1, .int y1), (2, .int y2), (3, .int y3)] → W p l e rmX8_countFillings s m args below meth c s.heap [] 0 0 (MQ below (QcS (some (.int r))) args s 0 0 (fun _ => False)) (F0 m 4 ls1 [])) : W p l e rmX8_countFillings s m args below meth c s.heap [] 0 0 (MQ below (QcS (some (.int r))) args s 0 0 (fun _ => False)) (F0 m 0 ls []) := by
  unfold bX8_countFillings_0 at hF
  obtain ⟨hx, hb, -, hown, -, hts, -⟩ := id C0
  refine lv_iconst (v := (1 : Int32)) hx hb dX8_countFillings_0 (by decide) ?_
  refine lv_istore_n (lv' := [(2, .int (1 : Int32)), (0, .ref (ad x0)), (1, .int x1)]) hx hb dX8_countFillings_1 rfl hl (by decide) rfl (fun ls hl => ?_)
  refine lv_iconst (v := (0 : Int32)) hx hb dX8_countFillings_2 (by decide) ?_
  refine lv_istore_n (lv' := [(3, .int (0 : Int32)), (2, .int (1 : Int32)), (0, .ref (ad x0)), (1, .int x1)]) hx hb dX8_countFillings_3 rfl hl (by decide) rfl (fun ls hl => ?_)
  exact Kh0 _ _ _ _ (Option.some.inj hF).symm _ (lv_sub hl [2, 3, 1, 0] rfl)
set_option maxHeartbeats 4000000 in
set_option maxRecDepth 100000 in
theorem wX8_countFillings_27 {p : Program} {l : Launch} {e : Env} {s : State} {m : MethodId} {args : Array Value} {below : List Frame} {meth : Method} {c : Code} {D : va_G} {cy : Nat → ClassId} (ad : Nat → Nat) (A : Nat → Prop) {S : MS} {r : Int32} {out : ((Nat × Int32 × Int32 × Int32) ⊕ Int32)} {ls : Array Slot} {x0 : Nat} {x1 : Int32} {x2 : Int32} {x3 : Int32} (C0 : CX p s m args meth c RX8 cX8_countFillings 4 D cy) (M : MW D cy ad A S s.heap) (hr : meth.sig.returnType = some .int) (hF : bX8_countFillings_27 S x0 x1 x2 x3 = some out) (hl : lv_has ls 4 [(0, .ref (ad x0)), (1, .int x1), (2, .int x2), (3, .int x3)]) (Kr : ∀ r9, out = .inr r9 → r9 = r) (Kh0 : ∀ (y0 : Nat) (y1 : Int32) (y2 : Int32) (y3 : Int32), out = .inl (y0, y1, y2, y3) → ∀ (ls1 : Array Slot), lv_has ls1 4 [(0, .ref (ad y0)), (1, .int y1), (2, .int y2), (3, .int y3)] → W p l e rmX8_countFillings s m args below meth c s.heap [] 0 0 (MQ below (QcS (some (.int r))) args s 0 0 (fun _ => False)) (F0 m 4 ls1 [])) : W p l e rmX8_countFillings s m args below meth c s.heap [] 0 0 (MQ below (QcS (some (.int r))) args s 0 0 (fun _ => False)) (F0 m 27 ls []) := by
  unfold bX8_countFillings_27 at hF
  obtain ⟨hx, hb, -, hown, -, hts, -⟩ := id C0
  obtain ⟨v27, hv, hF⟩ := ob hF
  refine lv_iinc (v := v27) (lv' := [(3, .int v27), (0, .ref (ad x0)), (1, .int x1), (2, .int x2)]) hx hb dX8_countFillings_27 hl (k := 3) rfl (by rw [← vtI hv]; rfl) (by decide) rfl (fun ls hl => ?_)
  refine lv_goto (tgt := 4) hx hb dX8_countFillings_30 (by decide) ?_
  exact Kh0 _ _ _ _ (Option.some.inj hF).symm _ (lv_sub hl [1, 2, 3, 0] rfl)
set_option maxHeartbeats 4000000 in
set_option maxRecDepth 100000 in
theorem wX8_countFillings_4 {p : Program} {l : Launch} {e : Env} {s : State} {m : MethodId} {args : Array Value} {below : List Frame} {meth : Method} {c : Code} {D : va_G} {cy : Nat → ClassId} (ad : Nat → Nat) (A : Nat → Prop) {S : MS} {r : Int32} {out : ((Nat × Int32 × Int32 × Int32) ⊕ Int32)} {ls : Array Slot} {x0 : Nat} {x1 : Int32} {x2 : Int32} {x3 : Int32} (C0 : CX p s m args meth c RX8 cX8_countFillings 4 D cy) (M : MW D cy ad A S s.heap) (hr : meth.sig.returnType = some .int) (hF : bX8_countFillings_4 S x0 x1 x2 x3 = some out) (hl : lv_has ls 4 [(0, .ref (ad x0)), (1, .int x1), (2, .int x2), (3, .int x3)]) (Kr : ∀ r9, out = .inr r9 → r9 = r) (Kh0 : ∀ (y0 : Nat) (y1 : Int32) (y2 : Int32) (y3 : Int32), out = .inl (y0, y1, y2, y3) → ∀ (ls1 : Array Slot), lv_has ls1 4 [(0, .ref (ad y0)), (1, .int y1), (2, .int y2), (3, .int y3)] → W p l e rmX8_countFillings s m args below meth c s.heap [] 0 0 (MQ below (QcS (some (.int r))) args s 0 0 (fun _ => False)) (F0 m 4 ls1 [])) : W p l e rmX8_countFillings s m args below meth c s.heap [] 0 0 (MQ below (QcS (some (.int r))) args s 0 0 (fun _ => False)) (F0 m 4 ls []) := by
  unfold bX8_countFillings_4 at hF
  obtain ⟨hx, hb, -, hown, -, hts, -⟩ := id C0
  refine lv_iload_n hx hb dX8_countFillings_4 rfl (lv_at hl 3 rfl) ?_
  refine lv_iconst (v := (4 : Int32)) hx hb dX8_countFillings_5 (by decide) ?_
  refine lv_icmp_ge (tgt := 33) hx hb dX8_countFillings_6 (by decide) (fun hc => ?_) (fun hc => ?_)
  · have hF := oi_t hc hF
    refine lv_iload_n hx hb dX8_countFillings_33 rfl (lv_at hl 2 rfl) ?_
    obtain rfl := (Kr _ (Option.some.inj hF).symm)
    exact rt_SI C0 hr dX8_countFillings_34
  · have hF := oi_f hc hF
    refine lv_aload_n hx hb dX8_countFillings_9 rfl (lv_at hl 0 rfl) ?_
    obtain ⟨v10, hv, hF⟩ := ob hF
    refine k_getP C0 M hv fl_X8_24 dX8_countFillings_10 ?_
    refine lv_iconst (v := (5 : Int32)) hx hb dX8_countFillings_13 (by decide) ?_
    refine lv_iload_n hx hb dX8_countFillings_14 rfl (lv_at hl 1 rfl) ?_
    refine lv_imul hx hb dX8_countFillings_15 ?_
    refine lv_iload_n hx hb dX8_countFillings_16 rfl (lv_at hl 3 rfl) ?_
    refine lv_iadd hx hb dX8_countFillings_17 ?_
    obtain ⟨v18, hv, hF⟩ := ob hF
    refine k_ld C0 M hv dX8_countFillings_18 ?_
    refine lv_if_ge (tgt := 27) hx hb dX8_countFillings_19 (by decide) (fun hc => ?_) (fun hc => ?_)
    · have hF := oi_t hc hF
      exact wX8_countFillings_27 ad A C0 M hr hF (lv_sub hl [0, 1, 2, 3] rfl) Kr Kh0
    · have hF := oi_f hc hF
      refine lv_iload_n hx hb dX8_countFillings_22 rfl (lv_at hl 2 rfl) ?_
      refine lv_bipush (v := (10 : Int32)) hx hb dX8_countFillings_23 (by decide) ?_
      refine lv_imul hx hb dX8_countFillings_25 ?_
      obtain ⟨v26, hv, hF⟩ := ob hF
      have hv := vtI hv
      refine vtopi hv ?_
      refine lv_istore_n (lv' := [(2, .int v26), (0, .ref (ad x0)), (1, .int x1), (3, .int x3)]) hx hb dX8_countFillings_26 rfl hl (by decide) rfl (fun ls hl => ?_)
      exact wX8_countFillings_27 ad A C0 M hr hF (lv_sub hl [1, 2, 0, 3] rfl) Kr Kh0
set_option maxHeartbeats 4000000 in
set_option maxRecDepth 100000 in
theorem tX8_countFillings (l : Launch) (D : va_G) (cy : Nat → ClassId) (ad : Nat → Nat) (A : Nat → Prop) {S : MS} {a0 : Nat} {a1 : Int32} {r : Int32} (h : fX8_countFillings S a0 a1 = some r) : Met l yX8_countFillings [Cond.code yX8_countFillings cX8_countFillings 4 (some .int)] rmX8_countFillings (PcR D cy ad A S [.ref (ad a0), .int a1]) (QcS (some (.int r))) 0 0 (fun _ => False) := by
  refine met_R (by decide +kernel) cw_X8_countFillings (Nat.le_of_ble_eq_true rfl) ?_
  intro p e s m args below meth c ls C0 M hr hl
  have hl : lv_has ls 4 [(0, .ref (ad a0)), (1, .int a1)] := hl
  have key := lim_walk (step := sX8_countFillings S) (fun (q : (Nat × Int32 × Int32 × Int32)) (r9 : Int32) => ∀ (r : Int32), r9 = r → ((∀ (y0 : Nat) (y1 : Int32) (y2 : Int32) (y3 : Int32), q = (y0, y1, y2, y3) → ∀ (ls1 : Array Slot), lv_has ls1 4 [(0, .ref (ad y0)), (1, .int y1), (2, .int y2), (3, .int y3)] → W p l e rmX8_countFillings s m args below meth c s.heap [] 0 0 (MQ below (QcS (some (.int r))) args s 0 0 (fun _ => False)) (F0 m 4 ls1 [])))) ?_
  · unfold fX8_countFillings at h
    cases hs0 : bX8_countFillings_0 S a0 a1 with
    | none => rw [hs0] at h; cases h
    | some out =>
      rw [hs0] at h
      refine wX8_countFillings_0 ad A C0 M hr hs0 hl (fun r9 hr9 => ?_) ?_
      · subst hr9; exact Option.some.inj h
      · intro y0 y1 y2 y3 hq; subst hq; exact (key _ _ h _ rfl) _ _ _ _ rfl
  · intro q r9 out hst hre hin9
    intro r er; subst er
    refine ?_
    · intro y0 y1 y2 y3 hq ls1 hl
      subst hq
      exact wX8_countFillings_4 ad A C0 M hr hst hl hre (fun k0 k1 k2 k3 hk => (hin9 _ hk _ rfl) _ _ _ _ rfl)
set_option maxHeartbeats 4000000 in
set_option maxRecDepth 100000 in
theorem wX8_filled_0 {p : Program} {l : Launch} {e : Env} {s : State} {m : MethodId} {args : Array Value} {below : List Frame} {meth : Method} {c : Code} {D : va_G} {cy : Nat → ClassId} (ad : Nat → Nat) (A : Nat → Prop) {S : MS} {r : Int32} {out : ((Nat × Int32 × Int32 × Int32 × Int32 × Int32 × Int32 × Int32) ⊕ Int32)} {ls : Array Slot} {x0 : Nat} {x1 : Int32} {x2 : Int32} (C0 : CX p s m args meth c RX8 cX8_filled 10 D cy) (M : MW D cy ad A S s.heap) (hr : meth.sig.returnType = some .int) (hF : bX8_filled_0 S x0 x1 x2 = some out) (hl : lv_has ls 10 [(0, .ref (ad x0)), (1, .int x1), (2, .int x2)]) (Kr : ∀ r9, out = .inr r9 → r9 = r) (Kh0 : ∀ (y0 : Nat) (y1 : Int32) (y2 : Int32) (y3 : Int32) (y4 : Int32) (y5 : Int32) (y6 : Int32) (y7 : Int32), out = .inl (y0, y1, y2, y3, y4, y5, y6, y7) → ∀ (ls1 : Array Slot), lv_has ls1 10 [(0, .ref (ad y0)), (1, .int y1), (3, .int y2), (4, .int y3), (5, .int y4), (6, .int y5), (7, .int y6), (8, .int y7)] → W p l e rmX8_filled s m args below meth c s.heap [] 0 0 (MQ below (QcS (some (.int r))) args s 0 0 (fun _ => False)) (F0 m 19 ls1 [])) : W p l e rmX8_filled s m args below meth c s.heap [] 0 0 (MQ below (QcS (some (.int r))) args s 0 0 (fun _ => False)) (F0 m 0 ls []) := by
  unfold bX8_filled_0 at hF
  obtain ⟨hx, hb, -, hown, -, hts, -⟩ := id C0
  refine lv_iconst (v := (5 : Int32)) hx hb dX8_filled_0 (by decide) ?_
  refine lv_iload_n hx hb dX8_filled_1 rfl (lv_at hl 1 rfl) ?_
  refine lv_imul hx hb dX8_filled_2 ?_
  obtain ⟨v3, hv, hF⟩ := ob hF
  have hv := vtI hv
  refine vtopi hv ?_
  refine lv_istore_n (lv' := [(3, .int v3), (0, .ref (ad x0)), (1, .int x1), (2, .int x2)]) hx hb dX8_filled_3 rfl hl (by decide) rfl (fun ls hl => ?_)
  refine lv_iload_n hx hb dX8_filled_4 rfl (lv_at hl 3 rfl) ?_
  refine lv_istore (lv' := [(4, .int x2), (3, .int v3), (0, .ref (ad x0)), (1, .int x1), (2, .int x2)]) hx hb dX8_filled_5 hl (by decide) rfl (fun ls hl => ?_)
  refine lv_iconst (v := (0 : Int32)) hx hb dX8_filled_7 (by decide) ?_
  refine lv_istore (lv' := [(5, .int (0 : Int32)), (4, .int x2), (3, .int v3), (0, .ref (ad x0)), (1, .int x1), (2, .int x2)]) hx hb dX8_filled_8 hl (by decide) rfl (fun ls hl => ?_)
  refine lv_iconst (v := (1 : Int32)) hx hb dX8_filled_10 (by decide) ?_
  refine lv_istore (lv' := [(6, .int (1 : Int32)), (5, .int (0 : Int32)), (4, .int x2), (3, .int v3), (0, .ref (ad x0)), (1, .int x1), (2, .int x2)]) hx hb dX8_filled_11 hl (by decide) rfl (fun ls hl => ?_)
  refine lv_iconst (v := (0 : Int32)) hx hb dX8_filled_13 (by decide) ?_
  refine lv_istore (lv' := [(7, .int (0 : Int32)), (6, .int (1 : Int32)), (5, .int (0 : Int32)), (4, .int x2), (3, .int v3), (0, .ref (ad x0)), (1, .int x1), (2, .int x2)]) hx hb dX8_filled_14 hl (by decide) rfl (fun ls hl => ?_)
  refine lv_iconst (v := (3 : Int32)) hx hb dX8_filled_16 (by decide) ?_
  refine lv_istore (lv' := [(8, .int (3 : Int32)), (7, .int (0 : Int32)), (6, .int (1 : Int32)), (5, .int (0 : Int32)), (4, .int x2), (3, .int v3), (0, .ref (ad x0)), (1, .int x1), (2, .int x2)]) hx hb dX8_filled_17 hl (by decide) rfl (fun ls hl => ?_)
  exact Kh0 _ _ _ _ _ _ _ _ (Option.some.inj hF).symm _ (lv_sub hl [6, 7, 5, 4, 3, 2, 1, 0] rfl)
set_option maxHeartbeats 4000000 in
set_option maxRecDepth 100000 in
theorem wX8_filled_89 {p : Program} {l : Launch} {e : Env} {s : State} {m : MethodId} {args : Array Value} {below : List Frame} {meth : Method} {c : Code} {D : va_G} {cy : Nat → ClassId} (ad : Nat → Nat) (A : Nat → Prop) {S : MS} {r : Int32} {out : ((Nat × Int32 × Int32 × Int32 × Int32 × Int32 × Int32 × Int32) ⊕ Int32)} {ls : Array Slot} {x0 : Nat} {x1 : Int32} {x3 : Int32} {x4 : Int32} {x5 : Int32} {x6 : Int32} {x8 : Int32} {z0 : Int32} {z1 : Int32} (C0 : CX p s m args meth c RX8 cX8_filled 10 D cy) (M : MW D cy ad A S s.heap) (hr : meth.sig.returnType = some .int) (hF : bX8_filled_89 S x0 x1 x3 x4 x5 x6 x8 z0 z1 = some out) (hl : lv_has ls 10 [(0, .ref (ad x0)), (1, .int x1), (3, .int x3), (4, .int x4), (5, .int x5), (6, .int x6), (8, .int x8)]) (Kr : ∀ r9, out = .inr r9 → r9 = r) (Kh0 : ∀ (y0 : Nat) (y1 : Int32) (y2 : Int32) (y3 : Int32) (y4 : Int32) (y5 : Int32) (y6 : Int32) (y7 : Int32), out = .inl (y0, y1, y2, y3, y4, y5, y6, y7) → ∀ (ls1 : Array Slot), lv_has ls1 10 [(0, .ref (ad y0)), (1, .int y1), (3, .int y2), (4, .int y3), (5, .int y4), (6, .int y5), (7, .int y6), (8, .int y7)] → W p l e rmX8_filled s m args below meth c s.heap [] 0 0 (MQ below (QcS (some (.int r))) args s 0 0 (fun _ => False)) (F0 m 19 ls1 [])) : W p l e rmX8_filled s m args below meth c s.heap [] 0 0 (MQ below (QcS (some (.int r))) args s 0 0 (fun _ => False)) (F0 m 89 ls [.int z1, .int z0]) := by
  unfold bX8_filled_89 at hF
  obtain ⟨hx, hb, -, hown, -, hts, -⟩ := id C0
  refine lv_iadd hx hb dX8_filled_89 ?_
  obtain ⟨v90, hv, hF⟩ := ob hF
  have hv := vtI hv
  refine vtopi hv ?_
  refine lv_istore (lv' := [(7, .int v90), (0, .ref (ad x0)), (1, .int x1), (3, .int x3), (4, .int x4), (5, .int x5), (6, .int x6), (8, .int x8)]) hx hb dX8_filled_90 hl (by decide) rfl (fun ls hl => ?_)
  obtain ⟨v92, hv, hF⟩ := ob hF
  refine lv_iinc (v := v92) (lv' := [(8, .int v92), (7, .int v90), (0, .ref (ad x0)), (1, .int x1), (3, .int x3), (4, .int x4), (5, .int x5), (6, .int x6)]) hx hb dX8_filled_92 hl (k := 7) rfl (by rw [← vtI hv]; rfl) (by decide) rfl (fun ls hl => ?_)
  refine lv_goto (tgt := 19) hx hb dX8_filled_95 (by decide) ?_
  exact Kh0 _ _ _ _ _ _ _ _ (Option.some.inj hF).symm _ (lv_sub hl [2, 3, 4, 5, 6, 7, 1, 0] rfl)
set_option maxHeartbeats 4000000 in
set_option maxRecDepth 100000 in
theorem wX8_filled_54 {p : Program} {l : Launch} {e : Env} {s : State} {m : MethodId} {args : Array Value} {below : List Frame} {meth : Method} {c : Code} {D : va_G} {cy : Nat → ClassId} (ad : Nat → Nat) (A : Nat → Prop) {S : MS} {r : Int32} {out : ((Nat × Int32 × Int32 × Int32 × Int32 × Int32 × Int32 × Int32) ⊕ Int32)} {ls : Array Slot} {x0 : Nat} {x1 : Int32} {x3 : Int32} {x4 : Int32} {x5 : Int32} {x6 : Int32} {x7 : Int32} {x8 : Int32} {x9 : Int32} (C0 : CX p s m args meth c RX8 cX8_filled 10 D cy) (M : MW D cy ad A S s.heap) (hr : meth.sig.returnType = some .int) (hF : bX8_filled_54 S x0 x1 x3 x4 x5 x6 x7 x8 x9 = some out) (hl : lv_has ls 10 [(0, .ref (ad x0)), (1, .int x1), (3, .int x3), (4, .int x4), (5, .int x5), (6, .int x6), (7, .int x7), (8, .int x8), (9, .int x9)]) (Kr : ∀ r9, out = .inr r9 → r9 = r) (Kh0 : ∀ (y0 : Nat) (y1 : Int32) (y2 : Int32) (y3 : Int32) (y4 : Int32) (y5 : Int32) (y6 : Int32) (y7 : Int32), out = .inl (y0, y1, y2, y3, y4, y5, y6, y7) → ∀ (ls1 : Array Slot), lv_has ls1 10 [(0, .ref (ad y0)), (1, .int y1), (3, .int y2), (4, .int y3), (5, .int y4), (6, .int y5), (7, .int y6), (8, .int y7)] → W p l e rmX8_filled s m args below meth c s.heap [] 0 0 (MQ below (QcS (some (.int r))) args s 0 0 (fun _ => False)) (F0 m 19 ls1 [])) : W p l e rmX8_filled s m args below meth c s.heap [] 0 0 (MQ below (QcS (some (.int r))) args s 0 0 (fun _ => False)) (F0 m 54 ls []) := by
  unfold bX8_filled_54 at hF
  obtain ⟨hx, hb, -, hown, -, hts, -⟩ := id C0
  refine lv_iload hx hb dX8_filled_54 (lv_at hl 4 rfl) ?_
  refine lv_iload hx hb dX8_filled_56 (lv_at hl 5 rfl) ?_
  refine lv_iload hx hb dX8_filled_58 (lv_at hl 8 rfl) ?_
  refine lv_imul hx hb dX8_filled_60 ?_
  refine lv_iadd hx hb dX8_filled_61 ?_
  obtain ⟨v62, hv, hF⟩ := ob hF
  have hv := vtI hv
  refine vtopi hv ?_
  refine lv_istore (lv' := [(5, .int v62), (0, .ref (ad x0)), (1, .int x1), (3, .int x3), (4, .int x4), (6, .int x6), (7, .int x7), (8, .int x8), (9, .int x9)]) hx hb dX8_filled_62 hl (by decide) rfl (fun ls hl => ?_)
  refine lv_iload hx hb dX8_filled_64 (lv_at hl 5 rfl) ?_
  refine lv_bipush (v := (10 : Int32)) hx hb dX8_filled_66 (by decide) ?_
  refine lv_imul hx hb dX8_filled_68 ?_
  obtain ⟨v69, hv, hF⟩ := ob hF
  have hv := vtI hv
  refine vtopi hv ?_
  refine lv_istore (lv' := [(6, .int v69), (5, .int v62), (0, .ref (ad x0)), (1, .int x1), (3, .int x3), (4, .int x4), (7, .int x7), (8, .int x8), (9, .int x9)]) hx hb dX8_filled_69 hl (by decide) rfl (fun ls hl => ?_)
  refine lv_iload hx hb dX8_filled_71 (lv_at hl 6 rfl) ?_
  refine lv_iload hx hb dX8_filled_73 (lv_at hl 7 rfl) ?_
  refine lv_iconst (v := (2 : Int32)) hx hb dX8_filled_75 (by decide) ?_
  refine lv_irem hx hb dX8_filled_76 (by decide) ?_
  refine lv_if_ne (tgt := 85) hx hb dX8_filled_77 (by decide) (fun hc => ?_) (fun hc => ?_)
  · have hF := oi_f hc hF
    refine lv_iconst (v := (3 : Int32)) hx hb dX8_filled_85 (by decide) ?_
    refine lv_iload hx hb dX8_filled_86 (lv_at hl 8 rfl) ?_
    refine lv_imul hx hb dX8_filled_88 ?_
    exact wX8_filled_89 ad A C0 M hr hF (lv_sub hl [2, 3, 4, 5, 1, 0, 7] rfl) Kr Kh0
  · have hF := oi_t hc hF
    refine lv_iload hx hb dX8_filled_80 (lv_at hl 8 rfl) ?_
    refine lv_goto (tgt := 89) hx hb dX8_filled_82 (by decide) ?_
    exact wX8_filled_89 ad A C0 M hr hF (lv_sub hl [2, 3, 4, 5, 1, 0, 7] rfl) Kr Kh0
set_option maxHeartbeats 4000000 in
set_option maxRecDepth 100000 in
theorem wX8_filled_145 {p : Program} {l : Launch} {e : Env} {s : State} {m : MethodId} {args : Array Value} {below : List Frame} {meth : Method} {c : Code} {D : va_G} {cy : Nat → ClassId} (ad : Nat → Nat) (A : Nat → Prop) {S : MS} {r : Int32} {out : ((Nat × Int32 × Int32 × Int32 × Int32 × Int32 × Int32 × Int32) ⊕ Int32)} {ls : Array Slot} {x5 : Int32} {x7 : Int32} (C0 : CX p s m args meth c RX8 cX8_filled 10 D cy) (M : MW D cy ad A S s.heap) (hr : meth.sig.returnType = some .int) (hF : bX8_filled_145 S x5 x7 = some out) (hl : lv_has ls 10 [(5, .int x5), (7, .int x7)]) (Kr : ∀ r9, out = .inr r9 → r9 = r) (Kh0 : ∀ (y0 : Nat) (y1 : Int32) (y2 : Int32) (y3 : Int32) (y4 : Int32) (y5 : Int32) (y6 : Int32) (y7 : Int32), out = .inl (y0, y1, y2, y3, y4, y5, y6, y7) → ∀ (ls1 : Array Slot), lv_has ls1 10 [(0, .ref (ad y0)), (1, .int y1), (3, .int y2), (4, .int y3), (5, .int y4), (6, .int y5), (7, .int y6), (8, .int y7)] → W p l e rmX8_filled s m args below meth c s.heap [] 0 0 (MQ below (QcS (some (.int r))) args s 0 0 (fun _ => False)) (F0 m 19 ls1 [])) : W p l e rmX8_filled s m args below meth c s.heap [] 0 0 (MQ below (QcS (some (.int r))) args s 0 0 (fun _ => False)) (F0 m 145 ls []) := by
  unfold bX8_filled_145 at hF
  obtain ⟨hx, hb, -, hown, -, hts, -⟩ := id C0
  refine lv_bipush (v := (10 : Int32)) hx hb dX8_filled_145 (by decide) ?_
  refine lv_iload hx hb dX8_filled_147 (lv_at hl 0 rfl) ?_
  refine lv_imul hx hb dX8_filled_149 ?_
  refine lv_iload hx hb dX8_filled_150 (lv_at hl 1 rfl) ?_
  refine lv_bipush (v := (10 : Int32)) hx hb dX8_filled_152 (by decide) ?_
  refine lv_irem hx hb dX8_filled_154 (by decide) ?_
  refine lv_iadd hx hb dX8_filled_155 ?_
  obtain rfl := (Kr _ (Option.some.inj hF).symm)
  exact rt_SI C0 hr dX8_filled_156
set_option maxHeartbeats 4000000 in
set_option maxRecDepth 100000 in
theorem wX8_filled_128 {p : Program} {l : Launch} {e : Env} {s : State} {m : MethodId} {args : Array Value} {below : List Frame} {meth : Method} {c : Code} {D : va_G} {cy : Nat → ClassId} (ad : Nat → Nat) (A : Nat → Prop) {S : MS} {r : Int32} {out : ((Nat × Int32 × Int32 × Int32 × Int32 × Int32 × Int32 × Int32) ⊕ Int32)} {ls : Array Slot} {x1 : Int32} {x5 : Int32} {x7 : Int32} (C0 : CX p s m args meth c RX8 cX8_filled 10 D cy) (M : MW D cy ad A S s.heap) (hr : meth.sig.returnType = some .int) (hF : bX8_filled_128 S x1 x5 x7 = some out) (hl : lv_has ls 10 [(1, .int x1), (5, .int x5), (7, .int x7)]) (Kr : ∀ r9, out = .inr r9 → r9 = r) (Kh0 : ∀ (y0 : Nat) (y1 : Int32) (y2 : Int32) (y3 : Int32) (y4 : Int32) (y5 : Int32) (y6 : Int32) (y7 : Int32), out = .inl (y0, y1, y2, y3, y4, y5, y6, y7) → ∀ (ls1 : Array Slot), lv_has ls1 10 [(0, .ref (ad y0)), (1, .int y1), (3, .int y2), (4, .int y3), (5, .int y4), (6, .int y5), (7, .int y6), (8, .int y7)] → W p l e rmX8_filled s m args below meth c s.heap [] 0 0 (MQ below (QcS (some (.int r))) args s 0 0 (fun _ => False)) (F0 m 19 ls1 [])) : W p l e rmX8_filled s m args below meth c s.heap [] 0 0 (MQ below (QcS (some (.int r))) args s 0 0 (fun _ => False)) (F0 m 128 ls []) := by
  unfold bX8_filled_128 at hF
  obtain ⟨hx, hb, -, hown, -, hts, -⟩ := id C0
  refine lv_iload_n hx hb dX8_filled_128 rfl (lv_at hl 0 rfl) ?_
  refine lv_if_ne (tgt := 145) hx hb dX8_filled_129 (by decide) (fun hc => ?_) (fun hc => ?_)
  · have hF := oi_f hc hF
    exact wX8_filled_145 ad A C0 M hr hF (lv_sub hl [1, 2] rfl) Kr Kh0
  · have hF := oi_t hc hF
    refine lv_iload hx hb dX8_filled_132 (lv_at hl 1 rfl) ?_
    refine lv_bipush (v := (100 : Int32)) hx hb dX8_filled_134 (by decide) ?_
    refine lv_idiv hx hb dX8_filled_136 (by decide) ?_
    refine lv_bipush (v := (36 : Int32)) hx hb dX8_filled_137 (by decide) ?_
    refine lv_icmp_le (tgt := 145) hx hb dX8_filled_139 (by decide) (fun hc => ?_) (fun hc => ?_)
    · have hF := oi_t hc hF
      exact wX8_filled_145 ad A C0 M hr hF (lv_sub hl [1, 2] rfl) Kr Kh0
    · have hF := oi_f hc hF
      refine lv_bipush (v := (-9 : Int32)) hx hb dX8_filled_142 (by decide) ?_
      obtain rfl := (Kr _ (Option.some.inj hF).symm)
      exact rt_SI C0 hr dX8_filled_144
set_option maxHeartbeats 4000000 in
set_option maxRecDepth 100000 in
theorem wX8_filled_19 {p : Program} {l : Launch} {e : Env} {s : State} {m : MethodId} {args : Array Value} {below : List Frame} {meth : Method} {c : Code} {D : va_G} {cy : Nat → ClassId} (ad : Nat → Nat) (A : Nat → Prop) {S : MS} {r : Int32} {out : ((Nat × Int32 × Int32 × Int32 × Int32 × Int32 × Int32 × Int32) ⊕ Int32)} {ls : Array Slot} {x0 : Nat} {x1 : Int32} {x3 : Int32} {x4 : Int32} {x5 : Int32} {x6 : Int32} {x7 : Int32} {x8 : Int32} (C0 : CX p s m args meth c RX8 cX8_filled 10 D cy) (M : MW D cy ad A S s.heap) (hr : meth.sig.returnType = some .int) (hF : bX8_filled_19 S x0 x1 x3 x4 x5 x6 x7 x8 = some out) (hl : lv_has ls 10 [(0, .ref (ad x0)), (1, .int x1), (3, .int x3), (4, .int x4), (5, .int x5), (6, .int x6), (7, .int x7), (8, .int x8)]) (Kr : ∀ r9, out = .inr r9 → r9 = r) (Kh0 : ∀ (y0 : Nat) (y1 : Int32) (y2 : Int32) (y3 : Int32) (y4 : Int32) (y5 : Int32) (y6 : Int32) (y7 : Int32), out = .inl (y0, y1, y2, y3, y4, y5, y6, y7) → ∀ (ls1 : Array Slot), lv_has ls1 10 [(0, .ref (ad y0)), (1, .int y1), (3, .int y2), (4, .int y3), (5, .int y4), (6, .int y5), (7, .int y6), (8, .int y7)] → W p l e rmX8_filled s m args below meth c s.heap [] 0 0 (MQ below (QcS (some (.int r))) args s 0 0 (fun _ => False)) (F0 m 19 ls1 [])) : W p l e rmX8_filled s m args below meth c s.heap [] 0 0 (MQ below (QcS (some (.int r))) args s 0 0 (fun _ => False)) (F0 m 19 ls []) := by
  unfold bX8_filled_19 at hF
  obtain ⟨hx, hb, -, hown, -, hts, -⟩ := id C0
  refine lv_iload hx hb dX8_filled_19 (lv_at hl 7 rfl) ?_
  refine lv_if_lt (tgt := 98) hx hb dX8_filled_21 (by decide) (fun hc => ?_) (fun hc => ?_)
  · have hF := oi_t hc hF
    refine lv_aload_n hx hb dX8_filled_98 rfl (lv_at hl 0 rfl) ?_
    obtain ⟨v99, hv, hF⟩ := ob hF
    refine k_getP C0 M hv fl_X8_24 dX8_filled_99 ?_
    refine lv_iload_n hx hb dX8_filled_102 rfl (lv_at hl 2 rfl) ?_
    refine lv_iconst (v := (5 : Int32)) hx hb dX8_filled_103 (by decide) ?_
    refine lv_iadd hx hb dX8_filled_104 ?_
    refine lv_iconst (v := (1 : Int32)) hx hb dX8_filled_105 (by decide) ?_
    refine lv_isub hx hb dX8_filled_106 ?_
    obtain ⟨v107, hv, hF⟩ := ob hF
    refine k_ld C0 M hv dX8_filled_107 ?_
    refine lv_istore (lv' := [(8, .int v107), (0, .ref (ad x0)), (1, .int x1), (3, .int x3), (4, .int x4), (5, .int x5), (6, .int x6), (7, .int x7)]) hx hb dX8_filled_108 hl (by decide) rfl (fun ls hl => ?_)
    refine lv_iload hx hb dX8_filled_110 (lv_at hl 0 rfl) ?_
    refine lv_if_lt (tgt := 128) hx hb dX8_filled_112 (by decide) (fun hc => ?_) (fun hc => ?_)
    · have hF := oi_t hc hF
      exact wX8_filled_128 ad A C0 M hr hF (lv_sub hl [2, 5, 7] rfl) Kr Kh0
    · have hF := oi_f hc hF
      refine lv_iload hx hb dX8_filled_115 (lv_at hl 0 rfl) ?_
      refine lv_iload hx hb dX8_filled_117 (lv_at hl 7 rfl) ?_
      refine lv_bipush (v := (10 : Int32)) hx hb dX8_filled_119 (by decide) ?_
      refine lv_irem hx hb dX8_filled_121 (by decide) ?_
      refine lv_icmp_eq (tgt := 128) hx hb dX8_filled_122 (by decide) (fun hc => ?_) (fun hc => ?_)
      · have hF := oi_t hc hF
        exact wX8_filled_128 ad A C0 M hr hF (lv_sub hl [2, 5, 7] rfl) Kr Kh0
      · have hF := oi_f hc hF
        refine lv_bipush (v := (-9 : Int32)) hx hb dX8_filled_125 (by decide) ?_
        obtain rfl := (Kr _ (Option.some.inj hF).symm)
        exact rt_SI C0 hr dX8_filled_127
  · have hF := oi_f hc hF
    refine lv_aload_n hx hb dX8_filled_24 rfl (lv_at hl 0 rfl) ?_
    obtain ⟨v25, hv, hF⟩ := ob hF
    refine k_getP C0 M hv fl_X8_24 dX8_filled_25 ?_
    refine lv_iload_n hx hb dX8_filled_28 rfl (lv_at hl 2 rfl) ?_
    refine lv_iload hx hb dX8_filled_29 (lv_at hl 7 rfl) ?_
    refine lv_iadd hx hb dX8_filled_31 ?_
    obtain ⟨v32, hv, hF⟩ := ob hF
    refine k_ld C0 M hv dX8_filled_32 ?_
    refine lv_istore (lv' := [(9, .int v32), (0, .ref (ad x0)), (1, .int x1), (3, .int x3), (4, .int x4), (5, .int x5), (6, .int x6), (7, .int x7), (8, .int x8)]) hx hb dX8_filled_33 hl (by decide) rfl (fun ls hl => ?_)
    refine lv_iload hx hb dX8_filled_35 (lv_at hl 0 rfl) ?_
    refine lv_if_ge (tgt := 54) hx hb dX8_filled_37 (by decide) (fun hc => ?_) (fun hc => ?_)
    · have hF := oi_t hc hF
      exact wX8_filled_54 ad A C0 M hr hF (lv_sub hl [1, 2, 3, 4, 5, 6, 7, 8, 0] rfl) Kr Kh0
    · have hF := oi_f hc hF
      refine lv_iload hx hb dX8_filled_40 (lv_at hl 4 rfl) ?_
      refine lv_bipush (v := (10 : Int32)) hx hb dX8_filled_42 (by decide) ?_
      refine lv_irem hx hb dX8_filled_44 (by decide) ?_
      obtain ⟨v45, hv, hF⟩ := ob hF
      have hv := vtI hv
      refine vtopi hv ?_
      refine lv_istore (lv' := [(9, .int v45), (0, .ref (ad x0)), (1, .int x1), (3, .int x3), (4, .int x4), (5, .int x5), (6, .int x6), (7, .int x7), (8, .int x8)]) hx hb dX8_filled_45 hl (by decide) rfl (fun ls hl => ?_)
      refine lv_iload hx hb dX8_filled_47 (lv_at hl 4 rfl) ?_
      refine lv_bipush (v := (10 : Int32)) hx hb dX8_filled_49 (by decide) ?_
      refine lv_idiv hx hb dX8_filled_51 (by decide) ?_
      obtain ⟨v52, hv, hF⟩ := ob hF
      have hv := vtI hv
      refine vtopi hv ?_
      refine lv_istore (lv' := [(4, .int v52), (9, .int v45), (0, .ref (ad x0)), (1, .int x1), (3, .int x3), (5, .int x5), (6, .int x6), (7, .int x7), (8, .int x8)]) hx hb dX8_filled_52 hl (by decide) rfl (fun ls hl => ?_)
      exact wX8_filled_54 ad A C0 M hr hF (lv_sub hl [2, 3, 4, 0, 5, 6, 7, 8, 1] rfl) Kr Kh0
set_option maxHeartbeats 4000000 in
set_option maxRecDepth 100000 in
theorem tX8_filled (l : Launch) (D : va_G) (cy : Nat → ClassId) (ad : Nat → Nat) (A : Nat → Prop) {S : MS} {a0 : Nat} {a1 : Int32} {a2 : Int32} {r : Int32} (h : fX8_filled S a0 a1 a2 = some r) : Met l yX8_filled [Cond.code yX8_filled cX8_filled 10 (some .int)] rmX8_filled (PcR D cy ad A S [.ref (ad a0), .int a1, .int a2]) (QcS (some (.int r))) 0 0 (fun _ => False) := by
  refine met_R (by decide +kernel) cw_X8_filled (Nat.le_of_ble_eq_true rfl) ?_
  intro p e s m args below meth c ls C0 M hr hl
  have hl : lv_has ls 10 [(0, .ref (ad a0)), (1, .int a1), (2, .int a2)] := hl
  have key := lim_walk (step := sX8_filled S) (fun (q : (Nat × Int32 × Int32 × Int32 × Int32 × Int32 × Int32 × Int32)) (r9 : Int32) => ∀ (r : Int32), r9 = r → ((∀ (y0 : Nat) (y1 : Int32) (y2 : Int32) (y3 : Int32) (y4 : Int32) (y5 : Int32) (y6 : Int32) (y7 : Int32), q = (y0, y1, y2, y3, y4, y5, y6, y7) → ∀ (ls1 : Array Slot), lv_has ls1 10 [(0, .ref (ad y0)), (1, .int y1), (3, .int y2), (4, .int y3), (5, .int y4), (6, .int y5), (7, .int y6), (8, .int y7)] → W p l e rmX8_filled s m args below meth c s.heap [] 0 0 (MQ below (QcS (some (.int r))) args s 0 0 (fun _ => False)) (F0 m 19 ls1 [])))) ?_
  · unfold fX8_filled at h
    cases hs0 : bX8_filled_0 S a0 a1 a2 with
    | none => rw [hs0] at h; cases h
    | some out =>
      rw [hs0] at h
      refine wX8_filled_0 ad A C0 M hr hs0 hl (fun r9 hr9 => ?_) ?_
      · subst hr9; exact Option.some.inj h
      · intro y0 y1 y2 y3 y4 y5 y6 y7 hq; subst hq; exact (key _ _ h _ rfl) _ _ _ _ _ _ _ _ rfl
  · intro q r9 out hst hre hin9
    intro r er; subst er
    refine ?_
    · intro y0 y1 y2 y3 y4 y5 y6 y7 hq ls1 hl
      subst hq
      exact wX8_filled_19 ad A C0 M hr hst hl hre (fun k0 k1 k2 k3 k4 k5 k6 k7 hk => (hin9 _ hk _ rfl) _ _ _ _ _ _ _ _ rfl)
set_option maxHeartbeats 4000000 in
set_option maxRecDepth 100000 in
theorem wX9_isPlace_23 {p : Program} {l : Launch} {e : Env} {s : State} {m : MethodId} {args : Array Value} {below : List Frame} {meth : Method} {c : Code} {D : va_G} {cy : Nat → ClassId} (ad : Nat → Nat) (A : Nat → Prop) {r : Int32} {ls : Array Slot} {z0 : Int32} (C0 : CX p s m args meth c RX9 cX9_isPlace 2 D cy) (hr : meth.sig.returnType = some .boolean) (hF : bX9_isPlace_23 z0 = some r) (hl : lv_has ls 2 []) : W p l e rmX9_isPlace s m args below meth c s.heap [] 0 0 (MQ below (QcS (some (.int r))) args s 0 0 (fun _ => False)) (F0 m 23 ls [.int z0]) := by
  unfold bX9_isPlace_23 at hF
  obtain ⟨hx, hb, -, hown, -, hts, -⟩ := id C0
  obtain ⟨z23, hz, hF⟩ := ob hF
  have hz2 := (o_if hz).2
  refine vtopi hz2 ?_
  rw [hz2] at hz
  obtain rfl := (Option.some.inj hF)
  exact rt_SZ C0 hr hz dX9_isPlace_23
set_option maxHeartbeats 4000000 in
set_option maxRecDepth 100000 in
theorem wX9_isPlace_22 {p : Program} {l : Launch} {e : Env} {s : State} {m : MethodId} {args : Array Value} {below : List Frame} {meth : Method} {c : Code} {D : va_G} {cy : Nat → ClassId} (ad : Nat → Nat) (A : Nat → Prop) {r : Int32} {ls : Array Slot} (C0 : CX p s m args meth c RX9 cX9_isPlace 2 D cy) (hr : meth.sig.returnType = some .boolean) (hF : bX9_isPlace_22 = some r) (hl : lv_has ls 2 []) : W p l e rmX9_isPlace s m args below meth c s.heap [] 0 0 (MQ below (QcS (some (.int r))) args s 0 0 (fun _ => False)) (F0 m 22 ls []) := by
  unfold bX9_isPlace_22 at hF
  obtain ⟨hx, hb, -, hown, -, hts, -⟩ := id C0
  refine lv_iconst (v := (0 : Int32)) hx hb dX9_isPlace_22 (by decide) ?_
  exact wX9_isPlace_23 ad A C0 hr hF (lv_sub hl [] rfl)
set_option maxHeartbeats 4000000 in
set_option maxRecDepth 100000 in
theorem wX9_isPlace_0 {p : Program} {l : Launch} {e : Env} {s : State} {m : MethodId} {args : Array Value} {below : List Frame} {meth : Method} {c : Code} {D : va_G} {cy : Nat → ClassId} (ad : Nat → Nat) (A : Nat → Prop) {r : Int32} {ls : Array Slot} {x0 : Int32} {x1 : Int32} (C0 : CX p s m args meth c RX9 cX9_isPlace 2 D cy) (hr : meth.sig.returnType = some .boolean) (hF : bX9_isPlace_0 x0 x1 = some r) (hl : lv_has ls 2 [(0, .int x0), (1, .int x1)]) : W p l e rmX9_isPlace s m args below meth c s.heap [] 0 0 (MQ below (QcS (some (.int r))) args s 0 0 (fun _ => False)) (F0 m 0 ls []) := by
  unfold bX9_isPlace_0 at hF
  obtain ⟨hx, hb, -, hown, -, hts, -⟩ := id C0
  refine lv_iload_n hx hb dX9_isPlace_0 rfl (lv_at hl 0 rfl) ?_
  refine lv_bipush (v := (12 : Int32)) hx hb dX9_isPlace_1 (by decide) ?_
  obtain ⟨v3, hcl, hF⟩ := ob hF
  refine go_SI (r_S (rest := []) (As := [.int x0, .int (12 : Int32)]) C0 cb_X9_79 (tX9_isBelow l D cy ad hcl) (pre_S C0) hl dX9_isPlace_3 rfl (Nat.le_of_ble_eq_true rfl) ⟨rfl, rfl⟩ ⟨Nat.le_of_ble_eq_true rfl, Nat.le_of_ble_eq_true rfl⟩ ⟨Nat.le_of_ble_eq_true rfl, Nat.le_of_ble_eq_true rfl⟩ rfl) ?_
  refine lv_if_eq (tgt := 22) hx hb dX9_isPlace_6 (by decide) (fun hc => ?_) (fun hc => ?_)
  · have hF := oi_t hc hF
    exact wX9_isPlace_22 ad A C0 hr hF (lv_sub hl [] rfl)
  · have hF := oi_f hc hF
    refine lv_iload_n hx hb dX9_isPlace_9 rfl (lv_at hl 1 rfl) ?_
    refine lv_bipush (v := (12 : Int32)) hx hb dX9_isPlace_10 (by decide) ?_
    obtain ⟨v12, hcl, hF⟩ := ob hF
    refine go_SI (r_S (rest := []) (As := [.int x1, .int (12 : Int32)]) C0 cb_X9_79 (tX9_isBelow l D cy ad hcl) (pre_S C0) hl dX9_isPlace_12 rfl (Nat.le_of_ble_eq_true rfl) ⟨rfl, rfl⟩ ⟨Nat.le_of_ble_eq_true rfl, Nat.le_of_ble_eq_true rfl⟩ ⟨Nat.le_of_ble_eq_true rfl, Nat.le_of_ble_eq_true rfl⟩ rfl) ?_
    refine lv_if_eq (tgt := 22) hx hb dX9_isPlace_15 (by decide) (fun hc => ?_) (fun hc => ?_)
    · have hF := oi_t hc hF
      exact wX9_isPlace_22 ad A C0 hr hF (lv_sub hl [] rfl)
    · have hF := oi_f hc hF
      refine lv_iconst (v := (1 : Int32)) hx hb dX9_isPlace_18 (by decide) ?_
      refine lv_goto (tgt := 23) hx hb dX9_isPlace_19 (by decide) ?_
      exact wX9_isPlace_23 ad A C0 hr hF (lv_sub hl [] rfl)
set_option maxHeartbeats 4000000 in
set_option maxRecDepth 100000 in
theorem tX9_isPlace (l : Launch) (D : va_G) (cy : Nat → ClassId) (ad : Nat → Nat) {a0 : Int32} {a1 : Int32} {r : Int32} (h : fX9_isPlace a0 a1 = some r) : Met l yX9_isPlace [Cond.code yX9_isPlace cX9_isPlace 2 (some .boolean)] rmX9_isPlace (PcS D cy [.int a0, .int a1]) (QcS (some (.int r))) 0 0 (fun _ => False) := by
  refine met_S (by decide +kernel) cw_X9_isPlace (Nat.le_of_ble_eq_true rfl) ?_
  intro p e s m args below meth c ls C0 hr hl
  have hl : lv_has ls 2 [(0, .int a0), (1, .int a1)] := hl
  exact wX9_isPlace_0 ad (fun _ => False) C0 hr h hl
set_option maxHeartbeats 4000000 in
set_option maxRecDepth 100000 in
theorem wX7_hasCells_28 {p : Program} {l : Launch} {e : Env} {s : State} {m : MethodId} {args : Array Value} {below : List Frame} {meth : Method} {c : Code} {D : va_G} {cy : Nat → ClassId} (ad : Nat → Nat) (A : Nat → Prop) {S : MS} {r : Int32} {ls : Array Slot} {z0 : Int32} (C0 : CX p s m args meth c RX7 cX7_hasCells 4 D cy) (M : MW D cy ad A S s.heap) (hr : meth.sig.returnType = some .boolean) (hF : bX7_hasCells_28 S z0 = some r) (hl : lv_has ls 4 []) : W p l e rmX7_hasCells s m args below meth c s.heap [] 0 0 (MQ below (QcS (some (.int r))) args s 0 0 (fun _ => False)) (F0 m 28 ls [.int z0]) := by
  unfold bX7_hasCells_28 at hF
  obtain ⟨hx, hb, -, hown, -, hts, -⟩ := id C0
  obtain ⟨z28, hz, hF⟩ := ob hF
  have hz2 := (o_if hz).2
  refine vtopi hz2 ?_
  rw [hz2] at hz
  obtain rfl := (Option.some.inj hF)
  exact rt_SZ C0 hr hz dX7_hasCells_28
set_option maxHeartbeats 4000000 in
set_option maxRecDepth 100000 in
theorem wX7_hasCells_27 {p : Program} {l : Launch} {e : Env} {s : State} {m : MethodId} {args : Array Value} {below : List Frame} {meth : Method} {c : Code} {D : va_G} {cy : Nat → ClassId} (ad : Nat → Nat) (A : Nat → Prop) {S : MS} {r : Int32} {ls : Array Slot} (C0 : CX p s m args meth c RX7 cX7_hasCells 4 D cy) (M : MW D cy ad A S s.heap) (hr : meth.sig.returnType = some .boolean) (hF : bX7_hasCells_27 S = some r) (hl : lv_has ls 4 []) : W p l e rmX7_hasCells s m args below meth c s.heap [] 0 0 (MQ below (QcS (some (.int r))) args s 0 0 (fun _ => False)) (F0 m 27 ls []) := by
  unfold bX7_hasCells_27 at hF
  obtain ⟨hx, hb, -, hown, -, hts, -⟩ := id C0
  refine lv_iconst (v := (0 : Int32)) hx hb dX7_hasCells_27 (by decide) ?_
  exact wX7_hasCells_28 ad A C0 M hr hF (lv_sub hl [] rfl)
set_option maxHeartbeats 4000000 in
set_option maxRecDepth 100000 in
theorem wX7_hasCells_0 {p : Program} {l : Launch} {e : Env} {s : State} {m : MethodId} {args : Array Value} {below : List Frame} {meth : Method} {c : Code} {D : va_G} {cy : Nat → ClassId} (ad : Nat → Nat) (A : Nat → Prop) {S : MS} {r : Int32} {ls : Array Slot} {x0 : Nat} {x1 : Int32} {x2 : Int64} (C0 : CX p s m args meth c RX7 cX7_hasCells 4 D cy) (M : MW D cy ad A S s.heap) (hr : meth.sig.returnType = some .boolean) (hF : bX7_hasCells_0 S x0 x1 x2 = some r) (hl : lv_has ls 4 [(0, .ref (ad x0)), (1, .int x1), (2, .long x2)]) : W p l e rmX7_hasCells s m args below meth c s.heap [] 0 0 (MQ below (QcS (some (.int r))) args s 0 0 (fun _ => False)) (F0 m 0 ls []) := by
  unfold bX7_hasCells_0 at hF
  obtain ⟨hx, hb, -, hown, -, hts, -⟩ := id C0
  refine lv_iload_n hx hb dX7_hasCells_0 rfl (lv_at hl 1 rfl) ?_
  refine lv_if_lt (tgt := 27) hx hb dX7_hasCells_1 (by decide) (fun hc => ?_) (fun hc => ?_)
  · have hF := oi_t hc hF
    exact wX7_hasCells_27 ad A C0 M hr hF (lv_sub hl [] rfl)
  · have hF := oi_f hc hF
    refine lv_lload_n hx hb dX7_hasCells_4 rfl (lv_at hl 2 rfl) ?_
    refine lv_lconst (v := (0 : Int64)) hx hb dX7_hasCells_5 (by decide) ?_
    refine W.lcmp hx hb dX7_hasCells_6 ?_
    refine lv_if_lt (tgt := 27) hx hb dX7_hasCells_7 (by decide) (fun hc => ?_) (fun hc => ?_)
    · have hF := oi_t hc hF
      exact wX7_hasCells_27 ad A C0 M hr hF (lv_sub hl [] rfl)
    · have hF := oi_f hc hF
      refine lv_iload_n hx hb dX7_hasCells_10 rfl (lv_at hl 1 rfl) ?_
      refine lv_i2l (v := (x1.toInt64)) hx hb dX7_hasCells_11 rfl ?_
      refine lv_lload_n hx hb dX7_hasCells_12 rfl (lv_at hl 2 rfl) ?_
      refine lv_ladd hx hb dX7_hasCells_13 ?_
      refine lv_aload_n hx hb dX7_hasCells_14 rfl (lv_at hl 0 rfl) ?_
      obtain ⟨v15, hv, hF⟩ := ob hF
      refine k_getI C0 M hv fl_X7_15 dX7_hasCells_15 ?_
      refine lv_i2l (v := (v15.toInt64)) hx hb dX7_hasCells_18 rfl ?_
      refine W.lcmp hx hb dX7_hasCells_19 ?_
      refine lv_if_gt (tgt := 27) hx hb dX7_hasCells_20 (by decide) (fun hc => ?_) (fun hc => ?_)
      · have hF := oi_t hc hF
        exact wX7_hasCells_27 ad A C0 M hr hF (lv_sub hl [] rfl)
      · have hF := oi_f hc hF
        refine lv_iconst (v := (1 : Int32)) hx hb dX7_hasCells_23 (by decide) ?_
        refine lv_goto (tgt := 28) hx hb dX7_hasCells_24 (by decide) ?_
        exact wX7_hasCells_28 ad A C0 M hr hF (lv_sub hl [] rfl)
set_option maxHeartbeats 4000000 in
set_option maxRecDepth 100000 in
theorem tX7_hasCells (l : Launch) (D : va_G) (cy : Nat → ClassId) (ad : Nat → Nat) (A : Nat → Prop) {S : MS} {a0 : Nat} {a1 : Int32} {a2 : Int64} {r : Int32} (h : fX7_hasCells S a0 a1 a2 = some r) : Met l yX7_hasCells [Cond.code yX7_hasCells cX7_hasCells 4 (some .boolean)] rmX7_hasCells (PcR D cy ad A S [.ref (ad a0), .int a1, .long a2]) (QcS (some (.int r))) 0 0 (fun _ => False) := by
  refine met_R (by decide +kernel) cw_X7_hasCells (Nat.le_of_ble_eq_true rfl) ?_
  intro p e s m args below meth c ls C0 M hr hl
  have hl : lv_has ls 4 [(0, .ref (ad a0)), (1, .int a1), (2, .long a2)] := hl
  exact wX7_hasCells_0 ad A C0 M hr h hl
set_option maxHeartbeats 4000000 in
set_option maxRecDepth 100000 in
theorem wX7_isEmpty_13 {p : Program} {l : Launch} {e : Env} {s : State} {m : MethodId} {args : Array Value} {below : List Frame} {meth : Method} {c : Code} {D : va_G} {cy : Nat → ClassId} (ad : Nat → Nat) (A : Nat → Prop) {S : MS} {r : Int32} {ls : Array Slot} {z0 : Int32} (C0 : CX p s m args meth c RX7 cX7_isEmpty 1 D cy) (M : MW D cy ad A S s.heap) (hr : meth.sig.returnType = some .boolean) (hF : bX7_isEmpty_13 S z0 = some r) (hl : lv_has ls 1 []) : W p l e rmX7_isEmpty s m args below meth c s.heap [] 0 0 (MQ below (QcS (some (.int r))) args s 0 0 (fun _ => False)) (F0 m 13 ls [.int z0]) := by
  unfold bX7_isEmpty_13 at hF
  obtain ⟨hx, hb, -, hown, -, hts, -⟩ := id C0
  obtain ⟨z13, hz, hF⟩ := ob hF
  have hz2 := (o_if hz).2
  refine vtopi hz2 ?_
  rw [hz2] at hz
  obtain rfl := (Option.some.inj hF)
  exact rt_SZ C0 hr hz dX7_isEmpty_13
set_option maxHeartbeats 4000000 in
set_option maxRecDepth 100000 in
theorem wX7_isEmpty_0 {p : Program} {l : Launch} {e : Env} {s : State} {m : MethodId} {args : Array Value} {below : List Frame} {meth : Method} {c : Code} {D : va_G} {cy : Nat → ClassId} (ad : Nat → Nat) (A : Nat → Prop) {S : MS} {r : Int32} {ls : Array Slot} {x0 : Nat} (C0 : CX p s m args meth c RX7 cX7_isEmpty 1 D cy) (M : MW D cy ad A S s.heap) (hr : meth.sig.returnType = some .boolean) (hF : bX7_isEmpty_0 S x0 = some r) (hl : lv_has ls 1 [(0, .ref (ad x0))]) : W p l e rmX7_isEmpty s m args below meth c s.heap [] 0 0 (MQ below (QcS (some (.int r))) args s 0 0 (fun _ => False)) (F0 m 0 ls []) := by
  unfold bX7_isEmpty_0 at hF
  obtain ⟨hx, hb, -, hown, -, hts, -⟩ := id C0
  refine lv_aload_n hx hb dX7_isEmpty_0 rfl (lv_at hl 0 rfl) ?_
  obtain ⟨v1, hv, hF⟩ := ob hF
  refine k_getI C0 M hv fl_X7_11 dX7_isEmpty_1 ?_
  refine lv_iconst (v := (-1 : Int32)) hx hb dX7_isEmpty_4 (by decide) ?_
  refine lv_icmp_ne (tgt := 12) hx hb dX7_isEmpty_5 (by decide) (fun hc => ?_) (fun hc => ?_)
  · have hF := oi_f hc hF
    refine lv_iconst (v := (0 : Int32)) hx hb dX7_isEmpty_12 (by decide) ?_
    exact wX7_isEmpty_13 ad A C0 M hr hF (lv_sub hl [] rfl)
  · have hF := oi_t hc hF
    refine lv_iconst (v := (1 : Int32)) hx hb dX7_isEmpty_8 (by decide) ?_
    refine lv_goto (tgt := 13) hx hb dX7_isEmpty_9 (by decide) ?_
    exact wX7_isEmpty_13 ad A C0 M hr hF (lv_sub hl [] rfl)
set_option maxHeartbeats 4000000 in
set_option maxRecDepth 100000 in
theorem tX7_isEmpty (l : Launch) (D : va_G) (cy : Nat → ClassId) (ad : Nat → Nat) (A : Nat → Prop) {S : MS} {a0 : Nat} {r : Int32} (h : fX7_isEmpty S a0 = some r) : Met l yX7_isEmpty [Cond.code yX7_isEmpty cX7_isEmpty 1 (some .boolean)] rmX7_isEmpty (PcR D cy ad A S [.ref (ad a0)]) (QcS (some (.int r))) 0 0 (fun _ => False) := by
  refine met_R (by decide +kernel) cw_X7_isEmpty (Nat.le_of_ble_eq_true rfl) ?_
  intro p e s m args below meth c ls C0 M hr hl
  have hl : lv_has ls 1 [(0, .ref (ad a0))] := hl
  exact wX7_isEmpty_0 ad A C0 M hr h hl
set_option maxHeartbeats 4000000 in
set_option maxRecDepth 100000 in
theorem wX7_faultOfTaking_48 {p : Program} {l : Launch} {e : Env} {s : State} {m : MethodId} {args : Array Value} {below : List Frame} {meth : Method} {c : Code} {D : va_G} {cy : Nat → ClassId} (ad : Nat → Nat) (A : Nat → Prop) {S : MS} {r : Int32} {ls : Array Slot} {z0 : Int32} (C0 : CX p s m args meth c RX7 cX7_faultOfTaking 5 D cy) (M : MW D cy ad A S s.heap) (hr : meth.sig.returnType = some .int) (hF : bX7_faultOfTaking_48 S z0 = some r) (hl : lv_has ls 5 []) : W p l e rmX7_faultOfTaking s m args below meth c s.heap [] 0 0 (MQ below (QcS (some (.int r))) args s 0 0 (fun _ => False)) (F0 m 48 ls [.int z0]) := by
  unfold bX7_faultOfTaking_48 at hF
  obtain ⟨hx, hb, -, hown, -, hts, -⟩ := id C0
  obtain rfl := (Option.some.inj hF)
  exact rt_SI C0 hr dX7_faultOfTaking_48
set_option maxHeartbeats 4000000 in
set_option maxRecDepth 100000 in
theorem wX7_faultOfTaking_17 {p : Program} {l : Launch} {e : Env} {s : State} {m : MethodId} {args : Array Value} {below : List Frame} {meth : Method} {c : Code} {D : va_G} {cy : Nat → ClassId} (ad : Nat → Nat) (A : Nat → Prop) {S : MS} {r : Int32} {ls : Array Slot} {x0 : Nat} {x2 : Int32} {x3 : Int64} (C0 : CX p s m args meth c RX7 cX7_faultOfTaking 5 D cy) (M : MW D cy ad A S s.heap) (hr : meth.sig.returnType = some .int) (hF : bX7_faultOfTaking_17 S x0 x2 x3 = some r) (hl : lv_has ls 5 [(0, .ref (ad x0)), (2, .int x2), (3, .long x3)]) : W p l e rmX7_faultOfTaking s m args below meth c s.heap [] 0 0 (MQ below (QcS (some (.int r))) args s 0 0 (fun _ => False)) (F0 m 17 ls []) := by
  unfold bX7_faultOfTaking_17 at hF
  obtain ⟨hx, hb, -, hown, -, hts, -⟩ := id C0
  refine lv_aload_n hx hb dX7_faultOfTaking_17 rfl (lv_at hl 0 rfl) ?_
  obtain ⟨_, hrec, hF⟩ := ob hF
  obtain ⟨v18, hcl, hF⟩ := ob hF
  refine go_SI (r_V (rest := []) (As := []) C0 cb_X7_28 M hrec (tX7_isEmpty l D cy ad A hcl) (pre_R C0 M) hl dX7_faultOfTaking_18 rfl (Nat.le_of_ble_eq_true rfl) ⟨rfl, rfl⟩ ⟨Nat.le_of_ble_eq_true rfl, Nat.le_of_ble_eq_true rfl⟩ ⟨Nat.le_of_ble_eq_true rfl, Nat.le_of_ble_eq_true rfl⟩ rfl) ?_
  refine lv_if_eq (tgt := 26) hx hb dX7_faultOfTaking_21 (by decide) (fun hc => ?_) (fun hc => ?_)
  · have hF := oi_t hc hF
    refine lv_lload_n hx hb dX7_faultOfTaking_26 rfl (lv_at hl 2 rfl) ?_
    refine lv_lconst (v := (0 : Int64)) hx hb dX7_faultOfTaking_27 (by decide) ?_
    refine W.lcmp hx hb dX7_faultOfTaking_28 ?_
    refine lv_if_ge (tgt := 34) hx hb dX7_faultOfTaking_29 (by decide) (fun hc => ?_) (fun hc => ?_)
    · have hF := oi_t hc hF
      refine lv_aload_n hx hb dX7_faultOfTaking_34 rfl (lv_at hl 0 rfl) ?_
      refine lv_iload_n hx hb dX7_faultOfTaking_35 rfl (lv_at hl 1 rfl) ?_
      refine lv_lload_n hx hb dX7_faultOfTaking_36 rfl (lv_at hl 2 rfl) ?_
      obtain ⟨_, hrec, hF⟩ := ob hF
      obtain ⟨v37, hcl, hF⟩ := ob hF
      refine go_SI (r_V (rest := []) (As := [.int x2, .long x3]) C0 cb_X7_32 M hrec (tX7_hasCells l D cy ad A hcl) (pre_R C0 M) hl dX7_faultOfTaking_37 rfl (Nat.le_of_ble_eq_true rfl) ⟨rfl, rfl⟩ ⟨Nat.le_of_ble_eq_true rfl, Nat.le_of_ble_eq_true rfl⟩ ⟨Nat.le_of_ble_eq_true rfl, Nat.le_of_ble_eq_true rfl⟩ rfl) ?_
      refine lv_if_eq (tgt := 47) hx hb dX7_faultOfTaking_40 (by decide) (fun hc => ?_) (fun hc => ?_)
      · have hF := oi_t hc hF
        refine lv_iconst (v := (3 : Int32)) hx hb dX7_faultOfTaking_47 (by decide) ?_
        exact wX7_faultOfTaking_48 ad A C0 M hr hF (lv_sub hl [] rfl)
      · have hF := oi_f hc hF
        refine lv_iconst (v := (0 : Int32)) hx hb dX7_faultOfTaking_43 (by decide) ?_
        refine lv_goto (tgt := 48) hx hb dX7_faultOfTaking_44 (by decide) ?_
        exact wX7_faultOfTaking_48 ad A C0 M hr hF (lv_sub hl [] rfl)
    · have hF := oi_f hc hF
      refine lv_iconst (v := (4 : Int32)) hx hb dX7_faultOfTaking_32 (by decide) ?_
      obtain rfl := (Option.some.inj hF)
      exact rt_SI C0 hr dX7_faultOfTaking_33
  · have hF := oi_f hc hF
    refine lv_iconst (v := (1 : Int32)) hx hb dX7_faultOfTaking_24 (by decide) ?_
    obtain rfl := (Option.some.inj hF)
    exact rt_SI C0 hr dX7_faultOfTaking_25
set_option maxHeartbeats 4000000 in
set_option maxRecDepth 100000 in
theorem wX7_faultOfTaking_0 {p : Program} {l : Launch} {e : Env} {s : State} {m : MethodId} {args : Array Value} {below : List Frame} {meth : Method} {c : Code} {D : va_G} {cy : Nat → ClassId} (ad : Nat → Nat) (A : Nat → Prop) {S : MS} {r : Int32} {ls : Array Slot} {x0 : Nat} {x1 : Int32} {x2 : Int32} {x3 : Int64} (C0 : CX p s m args meth c RX7 cX7_faultOfTaking 5 D cy) (M : MW D cy ad A S s.heap) (hr : meth.sig.returnType = some .int) (hF : bX7_faultOfTaking_0 S x0 x1 x2 x3 = some r) (hl : lv_has ls 5 [(0, .ref (ad x0)), (1, .int x1), (2, .int x2), (3, .long x3)]) : W p l e rmX7_faultOfTaking s m args below meth c s.heap [] 0 0 (MQ below (QcS (some (.int r))) args s 0 0 (fun _ => False)) (F0 m 0 ls []) := by
  unfold bX7_faultOfTaking_0 at hF
  obtain ⟨hx, hb, -, hown, -, hts, -⟩ := id C0
  refine lv_aload_n hx hb dX7_faultOfTaking_0 rfl (lv_at hl 0 rfl) ?_
  obtain ⟨_, hrec, hF⟩ := ob hF
  obtain ⟨v1, hcl, hF⟩ := ob hF
  refine go_SI (r_V (rest := []) (As := []) C0 cb_X7_28 M hrec (tX7_isEmpty l D cy ad A hcl) (pre_R C0 M) hl dX7_faultOfTaking_1 rfl (Nat.le_of_ble_eq_true rfl) ⟨rfl, rfl⟩ ⟨Nat.le_of_ble_eq_true rfl, Nat.le_of_ble_eq_true rfl⟩ ⟨Nat.le_of_ble_eq_true rfl, Nat.le_of_ble_eq_true rfl⟩ rfl) ?_
  refine lv_if_ne (tgt := 17) hx hb dX7_faultOfTaking_4 (by decide) (fun hc => ?_) (fun hc => ?_)
  · have hF := oi_f hc hF
    exact wX7_faultOfTaking_17 ad A C0 M hr hF (lv_sub hl [0, 2, 3] rfl)
  · have hF := oi_t hc hF
    refine lv_aload_n hx hb dX7_faultOfTaking_7 rfl (lv_at hl 0 rfl) ?_
    obtain ⟨v8, hv, hF⟩ := ob hF
    refine k_getI C0 M hv fl_X7_11 dX7_faultOfTaking_8 ?_
    refine lv_iload_n hx hb dX7_faultOfTaking_11 rfl (lv_at hl 1 rfl) ?_
    refine lv_icmp_eq (tgt := 17) hx hb dX7_faultOfTaking_12 (by decide) (fun hc => ?_) (fun hc => ?_)
    · have hF := oi_t hc hF
      exact wX7_faultOfTaking_17 ad A C0 M hr hF (lv_sub hl [0, 2, 3] rfl)
    · have hF := oi_f hc hF
      refine lv_iconst (v := (2 : Int32)) hx hb dX7_faultOfTaking_15 (by decide) ?_
      obtain rfl := (Option.some.inj hF)
      exact rt_SI C0 hr dX7_faultOfTaking_16
set_option maxHeartbeats 4000000 in
set_option maxRecDepth 100000 in
theorem tX7_faultOfTaking (l : Launch) (D : va_G) (cy : Nat → ClassId) (ad : Nat → Nat) (A : Nat → Prop) {S : MS} {a0 : Nat} {a1 : Int32} {a2 : Int32} {a3 : Int64} {r : Int32} (h : fX7_faultOfTaking S a0 a1 a2 a3 = some r) : Met l yX7_faultOfTaking [Cond.code yX7_faultOfTaking cX7_faultOfTaking 5 (some .int)] rmX7_faultOfTaking (PcR D cy ad A S [.ref (ad a0), .int a1, .int a2, .long a3]) (QcS (some (.int r))) 0 0 (fun _ => False) := by
  refine met_R (by decide +kernel) cw_X7_faultOfTaking (Nat.le_of_ble_eq_true rfl) ?_
  intro p e s m args below meth c ls C0 M hr hl
  have hl : lv_has ls 5 [(0, .ref (ad a0)), (1, .int a1), (2, .int a2), (3, .long a3)] := hl
  exact wX7_faultOfTaking_0 ad A C0 M hr h hl
set_option maxHeartbeats 4000000 in
set_option maxRecDepth 100000 in
theorem wJ9_floorMod_7cf53_18 {p : Program} {l : Launch} {e : Env} {s : State} {m : MethodId} {args : Array Value} {below : List Frame} {meth : Method} {c : Code} {D : va_G} {cy : Nat → ClassId} (ad : Nat → Nat) (A : Nat → Prop) {r : Int32} {ls : Array Slot} {x2 : Int32} (C0 : CX p s m args meth c RJ9 cJ9_floorMod_7cf53 3 D cy) (hr : meth.sig.returnType = some .int) (hF : bJ9_floorMod_7cf53_18 x2 = some r) (hl : lv_has ls 3 [(2, .int x2)]) : W p l e rmJ9_floorMod_7cf53 s m args below meth c s.heap [] 0 0 (MQ below (QcS (some (.int r))) args s 0 0 (fun _ => False)) (F0 m 18 ls []) := by
  unfold bJ9_floorMod_7cf53_18 at hF
  obtain ⟨hx, hb, -, hown, -, hts, -⟩ := id C0
  refine lv_iload_n hx hb dJ9_floorMod_7cf53_18 rfl (lv_at hl 0 rfl) ?_
  obtain rfl := (Option.some.inj hF)
  exact rt_SI C0 hr dJ9_floorMod_7cf53_19
set_option maxHeartbeats 4000000 in
set_option maxRecDepth 100000 in
theorem wJ9_floorMod_7cf53_0 {p : Program} {l : Launch} {e : Env} {s : State} {m : MethodId} {args : Array Value} {below : List Frame} {meth : Method} {c : Code} {D : va_G} {cy : Nat → ClassId} (ad : Nat → Nat) (A : Nat → Prop) {r : Int32} {ls : Array Slot} {x0 : Int32} {x1 : Int32} (C0 : CX p s m args meth c RJ9 cJ9_floorMod_7cf53 3 D cy) (hr : meth.sig.returnType = some .int) (hF : bJ9_floorMod_7cf53_0 x0 x1 = some r) (hl : lv_has ls 3 [(0, .int x0), (1, .int x1)]) : W p l e rmJ9_floorMod_7cf53 s m args below meth c s.heap [] 0 0 (MQ below (QcS (some (.int r))) args s 0 0 (fun _ => False)) (F0 m 0 ls []) := by
  unfold bJ9_floorMod_7cf53_0 at hF
  obtain ⟨hx, hb, -, hown, -, hts, -⟩ := id C0
  refine lv_iload_n hx hb dJ9_floorMod_7cf53_0 rfl (lv_at hl 0 rfl) ?_
  refine lv_iload_n hx hb dJ9_floorMod_7cf53_1 rfl (lv_at hl 1 rfl) ?_
  obtain ⟨w2, hv, hF⟩ := ob hF
  refine lv_irem hx hb dJ9_floorMod_7cf53_2 (o_nz_ne hv) ?_
  obtain ⟨v3, hv, hF⟩ := ob hF
  have hv := vtI hv
  refine vtopi hv ?_
  refine lv_istore_n (lv' := [(2, .int v3), (0, .int x0), (1, .int x1)]) hx hb dJ9_floorMod_7cf53_3 rfl hl (by decide) rfl (fun ls hl => ?_)
  refine lv_iload_n hx hb dJ9_floorMod_7cf53_4 rfl (lv_at hl 1 rfl) ?_
  refine lv_iload_n hx hb dJ9_floorMod_7cf53_5 rfl (lv_at hl 2 rfl) ?_
  refine lv_ixor hx hb dJ9_floorMod_7cf53_6 ?_
  refine lv_if_ge (tgt := 18) hx hb dJ9_floorMod_7cf53_7 (by decide) (fun hc => ?_) (fun hc => ?_)
  · have hF := oi_t hc hF
    exact wJ9_floorMod_7cf53_18 ad A C0 hr hF (lv_sub hl [0] rfl)
  · have hF := oi_f hc hF
    refine lv_iload_n hx hb dJ9_floorMod_7cf53_10 rfl (lv_at hl 0 rfl) ?_
    refine lv_if_eq (tgt := 18) hx hb dJ9_floorMod_7cf53_11 (by decide) (fun hc => ?_) (fun hc => ?_)
    · have hF := oi_t hc hF
      exact wJ9_floorMod_7cf53_18 ad A C0 hr hF (lv_sub hl [0] rfl)
    · have hF := oi_f hc hF
      refine lv_iload_n hx hb dJ9_floorMod_7cf53_14 rfl (lv_at hl 0 rfl) ?_
      refine lv_iload_n hx hb dJ9_floorMod_7cf53_15 rfl (lv_at hl 2 rfl) ?_
      refine lv_iadd hx hb dJ9_floorMod_7cf53_16 ?_
      obtain rfl := (Option.some.inj hF)
      exact rt_SI C0 hr dJ9_floorMod_7cf53_17
set_option maxHeartbeats 4000000 in
set_option maxRecDepth 100000 in
theorem tJ9_floorMod_7cf53 (l : Launch) (D : va_G) (cy : Nat → ClassId) (ad : Nat → Nat) {a0 : Int32} {a1 : Int32} {r : Int32} (h : fJ9_floorMod_7cf53 a0 a1 = some r) : Met l yJ9_floorMod_7cf53 [Cond.code yJ9_floorMod_7cf53 cJ9_floorMod_7cf53 3 (some .int)] rmJ9_floorMod_7cf53 (PcS D cy [.int a0, .int a1]) (QcS (some (.int r))) 0 0 (fun _ => False) := by
  refine met_S (by decide +kernel) cw_J9_floorMod_7cf53 (Nat.le_of_ble_eq_true rfl) ?_
  intro p e s m args below meth c ls C0 hr hl
  have hl : lv_has ls 3 [(0, .int a0), (1, .int a1)] := hl
  exact wJ9_floorMod_7cf53_0 ad (fun _ => False) C0 hr h hl
set_option maxHeartbeats 4000000 in
set_option maxRecDepth 100000 in
theorem wX6_along_58 {p : Program} {l : Launch} {e : Env} {s : State} {m : MethodId} {args : Array Value} {below : List Frame} {meth : Method} {c : Code} {D : va_G} {cy : Nat → ClassId} (ad : Nat → Nat) (A : Nat → Prop) {S : MS} {r : Int32} {ls : Array Slot} {z0 : Int32} (C0 : CX p s m args meth c RX6 cX6_along 6 D cy) (M : MW D cy ad A S s.heap) (hr : meth.sig.returnType = some .int) (hF : bX6_along_58 S z0 = some r) (hl : lv_has ls 6 []) : W p l e rmX6_along s m args below meth c s.heap [] 0 0 (MQ below (QcS (some (.int r))) args s 0 0 (fun _ => False)) (F0 m 58 ls [.int z0]) := by
  unfold bX6_along_58 at hF
  obtain ⟨hx, hb, -, hown, -, hts, -⟩ := id C0
  obtain rfl := (Option.some.inj hF)
  exact rt_SI C0 hr dX6_along_58
set_option maxHeartbeats 4000000 in
set_option maxRecDepth 100000 in
theorem wX6_along_0 {p : Program} {l : Launch} {e : Env} {s : State} {m : MethodId} {args : Array Value} {below : List Frame} {meth : Method} {c : Code} {D : va_G} {cy : Nat → ClassId} (ad : Nat → Nat) (A : Nat → Prop) {S : MS} {r : Int32} {ls : Array Slot} {x0 : Nat} {x1 : Int32} {x2 : Int32} {x3 : Int32} (C0 : CX p s m args meth c RX6 cX6_along 6 D cy) (M : MW D cy ad A S s.heap) (hr : meth.sig.returnType = some .int) (hF : bX6_along_0 S x0 x1 x2 x3 = some r) (hl : lv_has ls 6 [(0, .ref (ad x0)), (1, .int x1), (2, .int x2), (3, .int x3)]) : W p l e rmX6_along s m args below meth c s.heap [] 0 0 (MQ below (QcS (some (.int r))) args s 0 0 (fun _ => False)) (F0 m 0 ls []) := by
  unfold bX6_along_0 at hF
  obtain ⟨hx, hb, -, hown, -, hts, -⟩ := id C0
  refine lv_aload_n hx hb dX6_along_0 rfl (lv_at hl 0 rfl) ?_
  obtain ⟨v1, hv, hF⟩ := ob hF
  refine k_getI C0 M hv fl_X6_9 dX6_along_1 ?_
  refine lv_if_ne (tgt := 9) hx hb dX6_along_4 (by decide) (fun hc => ?_) (fun hc => ?_)
  · have hF := oi_f hc hF
    refine lv_iload_n hx hb dX6_along_9 rfl (lv_at hl 1 rfl) ?_
    refine lv_iload_n hx hb dX6_along_10 rfl (lv_at hl 2 rfl) ?_
    refine lv_iload_n hx hb dX6_along_11 rfl (lv_at hl 3 rfl) ?_
    refine lv_imul hx hb dX6_along_12 ?_
    refine lv_bipush (v := (10 : Int32)) hx hb dX6_along_13 (by decide) ?_
    obtain ⟨v15, hcl, hF⟩ := ob hF
    refine go_SI (r_S (rest := [.int x1]) (As := [.int (x2 * x3), .int (10 : Int32)]) C0 cb_X6_38 (tJ9_floorDiv_7cf53 l D cy ad hcl) (pre_S C0) hl dX6_along_15 rfl (Nat.le_of_ble_eq_true rfl) ⟨rfl, rfl⟩ ⟨Nat.le_of_ble_eq_true rfl, Nat.le_of_ble_eq_true rfl⟩ ⟨Nat.le_of_ble_eq_true rfl, Nat.le_of_ble_eq_true rfl⟩ rfl) ?_
    refine lv_iadd hx hb dX6_along_18 ?_
    obtain ⟨v19, hv, hF⟩ := ob hF
    have hv := vtI hv
    refine vtopi hv ?_
    refine lv_istore (lv' := [(4, .int v19), (0, .ref (ad x0)), (1, .int x1), (2, .int x2), (3, .int x3)]) hx hb dX6_along_19 hl (by decide) rfl (fun ls hl => ?_)
    refine lv_aload_n hx hb dX6_along_21 rfl (lv_at hl 1 rfl) ?_
    obtain ⟨v22, hv, hF⟩ := ob hF
    refine k_getI C0 M hv fl_X6_9 dX6_along_22 ?_
    refine lv_iconst (v := (1 : Int32)) hx hb dX6_along_25 (by decide) ?_
    refine lv_icmp_ne (tgt := 32) hx hb dX6_along_26 (by decide) (fun hc => ?_) (fun hc => ?_)
    · have hF := oi_f hc hF
      refine lv_iload hx hb dX6_along_32 (lv_at hl 0 rfl) ?_
      refine lv_bipush (v := (22 : Int32)) hx hb dX6_along_34 (by decide) ?_
      obtain ⟨v36, hcl, hF⟩ := ob hF
      refine go_SI (r_S (rest := []) (As := [.int v19, .int (22 : Int32)]) C0 cb_X6_44 (tJ9_floorMod_7cf53 l D cy ad hcl) (pre_S C0) hl dX6_along_36 rfl (Nat.le_of_ble_eq_true rfl) ⟨rfl, rfl⟩ ⟨Nat.le_of_ble_eq_true rfl, Nat.le_of_ble_eq_true rfl⟩ ⟨Nat.le_of_ble_eq_true rfl, Nat.le_of_ble_eq_true rfl⟩ rfl) ?_
      refine lv_istore (lv' := [(5, .int v36), (4, .int v19), (0, .ref (ad x0)), (1, .int x1), (2, .int x2), (3, .int x3)]) hx hb dX6_along_39 hl (by decide) rfl (fun ls hl => ?_)
      refine lv_iload hx hb dX6_along_41 (lv_at hl 0 rfl) ?_
      refine lv_bipush (v := (11 : Int32)) hx hb dX6_along_43 (by decide) ?_
      refine lv_icmp_le (tgt := 56) hx hb dX6_along_45 (by decide) (fun hc => ?_) (fun hc => ?_)
      · have hF := oi_t hc hF
        refine lv_iload hx hb dX6_along_56 (lv_at hl 0 rfl) ?_
        exact wX6_along_58 ad A C0 M hr hF (lv_sub hl [] rfl)
      · have hF := oi_f hc hF
        refine lv_bipush (v := (22 : Int32)) hx hb dX6_along_48 (by decide) ?_
        refine lv_iload hx hb dX6_along_50 (lv_at hl 0 rfl) ?_
        refine lv_isub hx hb dX6_along_52 ?_
        refine lv_goto (tgt := 58) hx hb dX6_along_53 (by decide) ?_
        exact wX6_along_58 ad A C0 M hr hF (lv_sub hl [] rfl)
    · have hF := oi_t hc hF
      refine lv_iload hx hb dX6_along_29 (lv_at hl 0 rfl) ?_
      obtain rfl := (Option.some.inj hF)
      exact rt_SI C0 hr dX6_along_31
  · have hF := oi_t hc hF
    refine lv_iload_n hx hb dX6_along_7 rfl (lv_at hl 1 rfl) ?_
    obtain rfl := (Option.some.inj hF)
    exact rt_SI C0 hr dX6_along_8
set_option maxHeartbeats 4000000 in
set_option maxRecDepth 100000 in
theorem tX6_along (l : Launch) (D : va_G) (cy : Nat → ClassId) (ad : Nat → Nat) (A : Nat → Prop) {S : MS} {a0 : Nat} {a1 : Int32} {a2 : Int32} {a3 : Int32} {r : Int32} (h : fX6_along S a0 a1 a2 a3 = some r) : Met l yX6_along [Cond.code yX6_along cX6_along 6 (some .int)] rmX6_along (PcR D cy ad A S [.ref (ad a0), .int a1, .int a2, .int a3]) (QcS (some (.int r))) 0 0 (fun _ => False) := by
  refine met_R (by decide +kernel) cw_X6_along (Nat.le_of_ble_eq_true rfl) ?_
  intro p e s m args below meth c ls C0 M hr hl
  have hl : lv_has ls 6 [(0, .ref (ad a0)), (1, .int a1), (2, .int a2), (3, .int a3)] := hl
  exact wX6_along_0 ad A C0 M hr h hl
set_option maxHeartbeats 4000000 in
set_option maxRecDepth 100000 in
theorem wX6_placeAt_47 {p : Program} {l : Launch} {e : Env} {s : State} {m : MethodId} {args : Array Value} {below : List Frame} {meth : Method} {c : Code} {D : va_G} {cy : Nat → ClassId} (ad : Nat → Nat) (A : Nat → Prop) {S : MS} {r : Int32} {ls : Array Slot} {z0 : Int32} (C0 : CX p s m args meth c RX6 cX6_placeAt 4 D cy) (M : MW D cy ad A S s.heap) (hr : meth.sig.returnType = some .int) (hF : bX6_placeAt_47 S z0 = some r) (hl : lv_has ls 4 []) : W p l e rmX6_placeAt s m args below meth c s.heap [] 0 0 (MQ below (QcS (some (.int r))) args s 0 0 (fun _ => False)) (F0 m 47 ls [.int z0]) := by
  unfold bX6_placeAt_47 at hF
  obtain ⟨hx, hb, -, hown, -, hts, -⟩ := id C0
  obtain rfl := (Option.some.inj hF)
  exact rt_SI C0 hr dX6_placeAt_47
set_option maxHeartbeats 4000000 in
set_option maxRecDepth 100000 in
theorem wX6_placeAt_0 {p : Program} {l : Launch} {e : Env} {s : State} {m : MethodId} {args : Array Value} {below : List Frame} {meth : Method} {c : Code} {D : va_G} {cy : Nat → ClassId} (ad : Nat → Nat) (A : Nat → Prop) {S : MS} {r : Int32} {ls : Array Slot} {x0 : Nat} {x1 : Int32} (C0 : CX p s m args meth c RX6 cX6_placeAt 4 D cy) (M : MW D cy ad A S s.heap) (hr : meth.sig.returnType = some .int) (hF : bX6_placeAt_0 S x0 x1 = some r) (hl : lv_has ls 4 [(0, .ref (ad x0)), (1, .int x1)]) : W p l e rmX6_placeAt s m args below meth c s.heap [] 0 0 (MQ below (QcS (some (.int r))) args s 0 0 (fun _ => False)) (F0 m 0 ls []) := by
  unfold bX6_placeAt_0 at hF
  obtain ⟨hx, hb, -, hown, -, hts, -⟩ := id C0
  refine lv_aload_n hx hb dX6_placeAt_0 rfl (lv_at hl 0 rfl) ?_
  refine lv_aload_n hx hb dX6_placeAt_1 rfl (lv_at hl 0 rfl) ?_
  obtain ⟨v2, hv, hF⟩ := ob hF
  refine k_getI C0 M hv fl_X6_15 dX6_placeAt_2 ?_
  refine lv_aload_n hx hb dX6_placeAt_5 rfl (lv_at hl 0 rfl) ?_
  obtain ⟨v6, hv, hF⟩ := ob hF
  refine k_getI C0 M hv fl_X6_24 dX6_placeAt_6 ?_
  refine lv_iload_n hx hb dX6_placeAt_9 rfl (lv_at hl 1 rfl) ?_
  obtain ⟨_, hrec, hF⟩ := ob hF
  obtain ⟨v10, hcl, hF⟩ := ob hF
  refine go_SI (r_V (rest := []) (As := [.int v2, .int v6, .int x1]) C0 cb_X6_30 M hrec (tX6_along l D cy ad A hcl) (pre_R C0 M) hl dX6_placeAt_10 rfl (Nat.le_of_ble_eq_true rfl) ⟨rfl, rfl⟩ ⟨Nat.le_of_ble_eq_true rfl, Nat.le_of_ble_eq_true rfl⟩ ⟨Nat.le_of_ble_eq_true rfl, Nat.le_of_ble_eq_true rfl⟩ rfl) ?_
  refine lv_istore_n (lv' := [(2, .int v10), (0, .ref (ad x0)), (1, .int x1)]) hx hb dX6_placeAt_13 rfl hl (by decide) rfl (fun ls hl => ?_)
  refine lv_aload_n hx hb dX6_placeAt_14 rfl (lv_at hl 1 rfl) ?_
  refine lv_aload_n hx hb dX6_placeAt_15 rfl (lv_at hl 1 rfl) ?_
  obtain ⟨v16, hv, hF⟩ := ob hF
  refine k_getI C0 M hv fl_X6_18 dX6_placeAt_16 ?_
  refine lv_aload_n hx hb dX6_placeAt_19 rfl (lv_at hl 1 rfl) ?_
  obtain ⟨v20, hv, hF⟩ := ob hF
  refine k_getI C0 M hv fl_X6_27 dX6_placeAt_20 ?_
  refine lv_iload_n hx hb dX6_placeAt_23 rfl (lv_at hl 2 rfl) ?_
  obtain ⟨_, hrec, hF⟩ := ob hF
  obtain ⟨v24, hcl, hF⟩ := ob hF
  refine go_SI (r_V (rest := []) (As := [.int v16, .int v20, .int x1]) C0 cb_X6_30 M hrec (tX6_along l D cy ad A hcl) (pre_R C0 M) hl dX6_placeAt_24 rfl (Nat.le_of_ble_eq_true rfl) ⟨rfl, rfl⟩ ⟨Nat.le_of_ble_eq_true rfl, Nat.le_of_ble_eq_true rfl⟩ ⟨Nat.le_of_ble_eq_true rfl, Nat.le_of_ble_eq_true rfl⟩ rfl) ?_
  refine lv_istore_n (lv' := [(3, .int v24), (2, .int v10), (0, .ref (ad x0)), (1, .int x1)]) hx hb dX6_placeAt_27 rfl hl (by decide) rfl (fun ls hl => ?_)
  refine lv_iload_n hx hb dX6_placeAt_28 rfl (lv_at hl 1 rfl) ?_
  refine lv_iload_n hx hb dX6_placeAt_29 rfl (lv_at hl 0 rfl) ?_
  obtain ⟨v30, hcl, hF⟩ := ob hF
  refine go_SI (r_SN (rest := []) (As := [.int v10, .int v24]) C0 cb_X6_34 (tX9_isPlace l D cy ad hcl) (pre_S C0) hl dX6_placeAt_30 rfl (Nat.le_of_ble_eq_true rfl) ⟨rfl, rfl⟩ ⟨Nat.le_of_ble_eq_true rfl, Nat.le_of_ble_eq_true rfl⟩ ⟨Nat.le_of_ble_eq_true rfl, Nat.le_of_ble_eq_true rfl⟩ rfl) ?_
  refine lv_if_eq (tgt := 45) hx hb dX6_placeAt_33 (by decide) (fun hc => ?_) (fun hc => ?_)
  · have hF := oi_t hc hF
    refine lv_bipush (v := (-9 : Int32)) hx hb dX6_placeAt_45 (by decide) ?_
    exact wX6_placeAt_47 ad A C0 M hr hF (lv_sub hl [] rfl)
  · have hF := oi_f hc hF
    refine lv_bipush (v := (12 : Int32)) hx hb dX6_placeAt_36 (by decide) ?_
    refine lv_iload_n hx hb dX6_placeAt_38 rfl (lv_at hl 0 rfl) ?_
    refine lv_imul hx hb dX6_placeAt_39 ?_
    refine lv_iload_n hx hb dX6_placeAt_40 rfl (lv_at hl 1 rfl) ?_
    refine lv_iadd hx hb dX6_placeAt_41 ?_
    refine lv_goto (tgt := 47) hx hb dX6_placeAt_42 (by decide) ?_
    exact wX6_placeAt_47 ad A C0 M hr hF (lv_sub hl [] rfl)
set_option maxHeartbeats 4000000 in
set_option maxRecDepth 100000 in
theorem tX6_placeAt (l : Launch) (D : va_G) (cy : Nat → ClassId) (ad : Nat → Nat) (A : Nat → Prop) {S : MS} {a0 : Nat} {a1 : Int32} {r : Int32} (h : fX6_placeAt S a0 a1 = some r) : Met l yX6_placeAt [Cond.code yX6_placeAt cX6_placeAt 4 (some .int)] rmX6_placeAt (PcR D cy ad A S [.ref (ad a0), .int a1]) (QcS (some (.int r))) 0 0 (fun _ => False) := by
  refine met_R (by decide +kernel) cw_X6_placeAt (Nat.le_of_ble_eq_true rfl) ?_
  intro p e s m args below meth c ls C0 M hr hl
  have hl : lv_has ls 4 [(0, .ref (ad a0)), (1, .int a1)] := hl
  exact wX6_placeAt_0 ad A C0 M hr h hl
set_option maxHeartbeats 4000000 in
set_option maxRecDepth 100000 in
theorem wX6_init_0 {p : Program} {l : Launch} {e : Env} {s : State} {m : MethodId} {args : Array Value} {below : List Frame} {meth : Method} {c : Code} {D : va_G} {cy : Nat → ClassId} (ad : Nat → Nat) (A : Nat → Prop) {S : MS} {S' : MS} {H : Heap} {locs : List Loc} {n0 : Nat} {ls : Array Slot} {x0 : Nat} {x1 : Int32} {x2 : Int32} {x3 : Int32} {x4 : Int32} {x5 : Int32} {x6 : Int32} (C0 : CX p s m args meth c RX6 cX6_init 7 D cy) (M : ST D cy ad A s.heap (ZN n0 s.heap.size) S H locs) (hr : meth.sig.returnType = none) (hin : meth.name = "<init>") (hF : bX6_init_0 S x0 x1 x2 x3 x4 x5 x6 = some S') (hl : lv_has ls 7 [(0, .ref (ad x0)), (1, .int x1), (2, .int x2), (3, .int x3), (4, .int x4), (5, .int x5), (6, .int x6)]) : W p l e rmX6_init s m args below meth c H locs 0 0 (MQ below (QcM D cy ad A n0 S' (none)) args s 0 0 A) (F0 m 0 ls []) := by
  unfold bX6_init_0 at hF
  obtain ⟨hx, hb, -, hown, -, hts, -⟩ := id C0
  refine lv_aload_n hx hb dX6_init_0 rfl (lv_at hl 0 rfl) ?_
  refine W.objInit hx hb hown (hts _ (uw_of 350 (by decide +kernel) rfl)) (hts _ (uw_of 111 (by decide +kernel) rfl)) (hts _ (uw_of 112 (by decide +kernel) rfl)) rfl (by rw [C0.2.2.1]; exact hl.1) rfl dX6_init_1 (Nat.le_of_ble_eq_true rfl) (Nat.le_of_ble_eq_true rfl) ?_
  refine W.eq (g2 := F0 m 4 ls []) rfl ?_
  refine lv_aload_n hx hb dX6_init_4 rfl (lv_at hl 0 rfl) ?_
  refine lv_iload_n hx hb dX6_init_5 rfl (lv_at hl 1 rfl) ?_
  obtain ⟨S6, hv, hF⟩ := ob hF
  refine k_sIF C0 M hin hv fl_X6_9 dX6_init_6 (fun H locs M => ?_)
  refine lv_aload_n hx hb dX6_init_9 rfl (lv_at hl 0 rfl) ?_
  refine lv_iload_n hx hb dX6_init_10 rfl (lv_at hl 2 rfl) ?_
  obtain ⟨S11, hv, hF⟩ := ob hF
  refine k_sIF C0 M hin hv fl_X6_15 dX6_init_11 (fun H locs M => ?_)
  refine lv_aload_n hx hb dX6_init_14 rfl (lv_at hl 0 rfl) ?_
  refine lv_iload_n hx hb dX6_init_15 rfl (lv_at hl 3 rfl) ?_
  obtain ⟨S16, hv, hF⟩ := ob hF
  refine k_sIF C0 M hin hv fl_X6_18 dX6_init_16 (fun H locs M => ?_)
  refine lv_aload_n hx hb dX6_init_19 rfl (lv_at hl 0 rfl) ?_
  refine lv_iload hx hb dX6_init_20 (lv_at hl 4 rfl) ?_
  obtain ⟨S22, hv, hF⟩ := ob hF
  refine k_sIF C0 M hin hv fl_X6_21 dX6_init_22 (fun H locs M => ?_)
  refine lv_aload_n hx hb dX6_init_25 rfl (lv_at hl 0 rfl) ?_
  refine lv_iload hx hb dX6_init_26 (lv_at hl 5 rfl) ?_
  obtain ⟨S28, hv, hF⟩ := ob hF
  refine k_sIF C0 M hin hv fl_X6_24 dX6_init_28 (fun H locs M => ?_)
  refine lv_aload_n hx hb dX6_init_31 rfl (lv_at hl 0 rfl) ?_
  refine lv_iload hx hb dX6_init_32 (lv_at hl 6 rfl) ?_
  obtain ⟨S34, hv, hF⟩ := ob hF
  refine k_sIF C0 M hin hv fl_X6_27 dX6_init_34 (fun H locs M => ?_)
  obtain rfl := (Option.some.inj hF)
  exact rt_MV C0 M hr dX6_init_37
set_option maxHeartbeats 4000000 in
set_option maxRecDepth 100000 in
theorem tX6_init (l : Launch) (D : va_G) (cy : Nat → ClassId) (ad : Nat → Nat) (A : Nat → Prop) {S S' : MS} {a0 : Nat} {a1 : Int32} {a2 : Int32} {a3 : Int32} {a4 : Int32} {a5 : Int32} {a6 : Int32} (h : fX6_init S a0 a1 a2 a3 a4 a5 a6 = some S') : Met l yX6_init [Cond.code yX6_init cX6_init 7 (none)] rmX6_init (PcR D cy ad A S [.ref (ad a0), .int a1, .int a2, .int a3, .int a4, .int a5, .int a6]) (QcM D cy ad A (m_n S) S' (none)) 0 0 A := by
  refine met_M (by decide +kernel) cw_X6_init (Nat.le_of_ble_eq_true rfl) ?_
  intro p e s m args below meth c ls C0 M hr hin hl
  have hl : lv_has ls 7 [(0, .ref (ad a0)), (1, .int a1), (2, .int a2), (3, .int a3), (4, .int a4), (5, .int a5), (6, .int a6)] := hl
  exact wX6_init_0 ad A C0 M hr hin h hl
set_option maxHeartbeats 4000000 in
set_option maxRecDepth 100000 in
theorem wX7_write_61 {p : Program} {l : Launch} {e : Env} {s : State} {m : MethodId} {args : Array Value} {below : List Frame} {meth : Method} {c : Code} {D : va_G} {cy : Nat → ClassId} (ad : Nat → Nat) (A : Nat → Prop) {S : MS} {S' : MS} {H : Heap} {locs : List Loc} {n0 : Nat} {ls : Array Slot} (C0 : CX p s m args meth c RX7 cX7_write 3 D cy) (M : ST D cy ad A s.heap (ZN n0 s.heap.size) S H locs) (hr : meth.sig.returnType = none) (hF : bX7_write_61 S = some S') (hl : lv_has ls 3 []) : W p l e rmX7_write s m args below meth c H locs 0 0 (MQ below (QcM D cy ad A n0 S' (none)) args s 0 0 A) (F0 m 61 ls []) := by
  unfold bX7_write_61 at hF
  obtain ⟨hx, hb, -, hown, -, hts, -⟩ := id C0
  obtain rfl := (Option.some.inj hF)
  exact rt_MV C0 M hr dX7_write_61
set_option maxHeartbeats 4000000 in
set_option maxRecDepth 100000 in
theorem wX7_write_0 {p : Program} {l : Launch} {e : Env} {s : State} {m : MethodId} {args : Array Value} {below : List Frame} {meth : Method} {c : Code} {D : va_G} {cy : Nat → ClassId} (ad : Nat → Nat) (A : Nat → Prop) {S : MS} {S' : MS} {H : Heap} {locs : List Loc} {n0 : Nat} {ls : Array Slot} {x0 : Nat} {x1 : Int32} {x2 : Int32} (C0 : CX p s m args meth c RX7 cX7_write 3 D cy) (M : ST D cy ad A s.heap (ZN n0 s.heap.size) S H locs) (hr : meth.sig.returnType = none) (hF : bX7_write_0 S x0 x1 x2 = some S') (hl : lv_has ls 3 [(0, .ref (ad x0)), (1, .int x1), (2, .int x2)]) : W p l e rmX7_write s m args below meth c H locs 0 0 (MQ below (QcM D cy ad A n0 S' (none)) args s 0 0 A) (F0 m 0 ls []) := by
  unfold bX7_write_0 at hF
  obtain ⟨hx, hb, -, hown, -, hts, -⟩ := id C0
  refine lv_aload_n hx hb dX7_write_0 rfl (lv_at hl 0 rfl) ?_
  obtain ⟨v1, hv, hF⟩ := ob hF
  refine k_getI C0 M.1 hv fl_X7_11 dX7_write_1 ?_
  by_cases hc0 : v1 = (0 : Int32)
  · have hF := oi_t hc0 hF
    refine lv_lookup (tgt := 32) (off := 28) hx hb dX7_write_4 (by decide) (by rw [hc0]; rfl) (by decide) ?_
    refine lv_aload_n hx hb dX7_write_32 rfl (lv_at hl 0 rfl) ?_
    obtain ⟨v33, hv, hF⟩ := ob hF
    refine k_getP C0 M.1 hv fl_X7_18 dX7_write_33 ?_
    refine lv_iload_n hx hb dX7_write_36 rfl (lv_at hl 1 rfl) ?_
    refine lv_iload_n hx hb dX7_write_37 rfl (lv_at hl 2 rfl) ?_
    refine lv_i2b (v := (x2.toInt8.toInt32)) hx hb dX7_write_38 rfl ?_
    obtain ⟨S39, hv, hF⟩ := ob hF
    refine k_st C0 M hv dX7_write_39 (fun H locs M => ?_)
    refine lv_goto (tgt := 61) hx hb dX7_write_40 (by decide) ?_
    exact wX7_write_61 ad A C0 M hr hF (lv_sub hl [] rfl)
  have hF := oi_f hc0 hF
  by_cases hc1 : v1 = (1 : Int32)
  · have hF := oi_t hc1 hF
    refine lv_lookup (tgt := 43) (off := 39) hx hb dX7_write_4 (by decide) (by rw [hc1]; rfl) (by decide) ?_
    refine lv_aload_n hx hb dX7_write_43 rfl (lv_at hl 0 rfl) ?_
    obtain ⟨v44, hv, hF⟩ := ob hF
    refine k_getP C0 M.1 hv fl_X7_18 dX7_write_44 ?_
    refine lv_iload_n hx hb dX7_write_47 rfl (lv_at hl 1 rfl) ?_
    refine lv_iload_n hx hb dX7_write_48 rfl (lv_at hl 2 rfl) ?_
    refine lv_i2s (v := (x2.toInt16.toInt32)) hx hb dX7_write_49 rfl ?_
    obtain ⟨S50, hv, hF⟩ := ob hF
    refine k_st C0 M hv dX7_write_50 (fun H locs M => ?_)
    refine lv_goto (tgt := 61) hx hb dX7_write_51 (by decide) ?_
    exact wX7_write_61 ad A C0 M hr hF (lv_sub hl [] rfl)
  have hF := oi_f hc1 hF
  refine lv_lookup (tgt := 54) (off := 50) hx hb dX7_write_4 (by decide) (by have hd0 : ¬ v1.toInt = 0 := tne hc0 (by decide); have hd1 : ¬ v1.toInt = 1 := tne hc1 (by decide); simp [Op.lookupswitch.offset, hd0, hd1, Ne.symm hd0, Ne.symm hd1]) (by decide) ?_
  refine lv_aload_n hx hb dX7_write_54 rfl (lv_at hl 0 rfl) ?_
  obtain ⟨v55, hv, hF⟩ := ob hF
  refine k_getP C0 M.1 hv fl_X7_18 dX7_write_55 ?_
  refine lv_iload_n hx hb dX7_write_58 rfl (lv_at hl 1 rfl) ?_
  refine lv_iload_n hx hb dX7_write_59 rfl (lv_at hl 2 rfl) ?_
  obtain ⟨S60, hv, hF⟩ := ob hF
  refine k_st C0 M hv dX7_write_60 (fun H locs M => ?_)
  exact wX7_write_61 ad A C0 M hr hF (lv_sub hl [] rfl)
set_option maxHeartbeats 4000000 in
set_option maxRecDepth 100000 in
theorem tX7_write (l : Launch) (D : va_G) (cy : Nat → ClassId) (ad : Nat → Nat) (A : Nat → Prop) {S S' : MS} {a0 : Nat} {a1 : Int32} {a2 : Int32} (h : fX7_write S a0 a1 a2 = some S') : Met l yX7_write [Cond.code yX7_write cX7_write 3 (none)] rmX7_write (PcR D cy ad A S [.ref (ad a0), .int a1, .int a2]) (QcM D cy ad A (m_n S) S' (none)) 0 0 A := by
  refine met_M (by decide +kernel) cw_X7_write (Nat.le_of_ble_eq_true rfl) ?_
  intro p e s m args below meth c ls C0 M hr hin hl
  have hl : lv_has ls 3 [(0, .ref (ad a0)), (1, .int a1), (2, .int a2)] := hl
  exact wX7_write_0 ad A C0 M hr h hl
set_option maxHeartbeats 4000000 in
set_option maxRecDepth 100000 in
theorem wX8_countRight_0 {p : Program} {l : Launch} {e : Env} {s : State} {m : MethodId} {args : Array Value} {below : List Frame} {meth : Method} {c : Code} {D : va_G} {cy : Nat → ClassId} (ad : Nat → Nat) (A : Nat → Prop) {S : MS} {r : Int32} {out : ((Nat × Int32 × Int32 × Int32 × Int32) ⊕ Int32)} {ls : Array Slot} {x0 : Nat} {x1 : Int32} (C0 : CX p s m args meth c RX8 cX8_countRight 5 D cy) (M : MW D cy ad A S s.heap) (hr : meth.sig.returnType = some .int) (hF : bX8_countRight_0 S x0 x1 = some out) (hl : lv_has ls 5 [(0, .ref (ad x0)), (1, .int x1)]) (Kr : ∀ r9, out = .inr r9 → r9 = r) (Kh0 : ∀ (y0 : Nat) (y1 : Int32) (y2 : Int32) (y3 : Int32) (y4 : Int32), out = .inl (y0, y1, y2, y3, y4) → ∀ (ls1 : Array Slot), lv_has ls1 5 [(0, .ref (ad y0)), (1, .int y1), (2, .int y2), (3, .int y3), (4, .int y4)] → W p l e rmX8_countRight s m args below meth c s.heap [] 0 0 (MQ below (QcS (some (.int r))) args s 0 0 (fun _ => False)) (F0 m 11 ls1 [])) : W p l e rmX8_countRight s m args below meth c s.heap [] 0 0 (MQ below (QcS (some (.int r))) args s 0 0 (fun _ => False)) (F0 m 0 ls []) := by
  unfold bX8_countRight_0 at hF
  obtain ⟨hx, hb, -, hown, -, hts, -⟩ := id C0
  refine lv_iconst (v := (0 : Int32)) hx hb dX8_countRight_0 (by decide) ?_
  refine lv_istore_n (lv' := [(2, .int (0 : Int32)), (0, .ref (ad x0)), (1, .int x1)]) hx hb dX8_countRight_1 rfl hl (by decide) rfl (fun ls hl => ?_)
  refine lv_aload_n hx hb dX8_countRight_2 rfl (lv_at hl 1 rfl) ?_
  refine lv_iload_n hx hb dX8_countRight_3 rfl (lv_at hl 2 rfl) ?_
  obtain ⟨_, hrec, hF⟩ := ob hF
  obtain ⟨v4, hcl, hF⟩ := ob hF
  refine go_SI (r_V (rest := []) (As := [.int x1]) C0 cb_X8_35 M hrec (tX8_countFillings l D cy ad A hcl) (pre_R C0 M) hl dX8_countRight_4 rfl (Nat.le_of_ble_eq_true rfl) ⟨rfl, rfl⟩ ⟨Nat.le_of_ble_eq_true rfl, Nat.le_of_ble_eq_true rfl⟩ ⟨Nat.le_of_ble_eq_true rfl, Nat.le_of_ble_eq_true rfl⟩ rfl) ?_
  refine lv_istore_n (lv' := [(3, .int v4), (2, .int (0 : Int32)), (0, .ref (ad x0)), (1, .int x1)]) hx hb dX8_countRight_7 rfl hl (by decide) rfl (fun ls hl => ?_)
  refine lv_iconst (v := (0 : Int32)) hx hb dX8_countRight_8 (by decide) ?_
  refine lv_istore (lv' := [(4, .int (0 : Int32)), (3, .int v4), (2, .int (0 : Int32)), (0, .ref (ad x0)), (1, .int x1)]) hx hb dX8_countRight_9 hl (by decide) rfl (fun ls hl => ?_)
  exact Kh0 _ _ _ _ _ (Option.some.inj hF).symm _ (lv_sub hl [3, 4, 2, 1, 0] rfl)
set_option maxHeartbeats 4000000 in
set_option maxRecDepth 100000 in
theorem wX8_countRight_32 {p : Program} {l : Launch} {e : Env} {s : State} {m : MethodId} {args : Array Value} {below : List Frame} {meth : Method} {c : Code} {D : va_G} {cy : Nat → ClassId} (ad : Nat → Nat) (A : Nat → Prop) {S : MS} {r : Int32} {out : ((Nat × Int32 × Int32 × Int32 × Int32) ⊕ Int32)} {ls : Array Slot} {x0 : Nat} {x1 : Int32} {x2 : Int32} {x3 : Int32} {x4 : Int32} (C0 : CX p s m args meth c RX8 cX8_countRight 5 D cy) (M : MW D cy ad A S s.heap) (hr : meth.sig.returnType = some .int) (hF : bX8_countRight_32 S x0 x1 x2 x3 x4 = some out) (hl : lv_has ls 5 [(0, .ref (ad x0)), (1, .int x1), (2, .int x2), (3, .int x3), (4, .int x4)]) (Kr : ∀ r9, out = .inr r9 → r9 = r) (Kh0 : ∀ (y0 : Nat) (y1 : Int32) (y2 : Int32) (y3 : Int32) (y4 : Int32), out = .inl (y0, y1, y2, y3, y4) → ∀ (ls1 : Array Slot), lv_has ls1 5 [(0, .ref (ad y0)), (1, .int y1), (2, .int y2), (3, .int y3), (4, .int y4)] → W p l e rmX8_countRight s m args below meth c s.heap [] 0 0 (MQ below (QcS (some (.int r))) args s 0 0 (fun _ => False)) (F0 m 11 ls1 [])) : W p l e rmX8_countRight s m args below meth c s.heap [] 0 0 (MQ below (QcS (some (.int r))) args s 0 0 (fun _ => False)) (F0 m 32 ls []) := by
  unfold bX8_countRight_32 at hF
  obtain ⟨hx, hb, -, hown, -, hts, -⟩ := id C0
  obtain ⟨v32, hv, hF⟩ := ob hF
  refine lv_iinc (v := v32) (lv' := [(4, .int v32), (0, .ref (ad x0)), (1, .int x1), (2, .int x2), (3, .int x3)]) hx hb dX8_countRight_32 hl (k := 4) rfl (by rw [← vtI hv]; rfl) (by decide) rfl (fun ls hl => ?_)
  refine lv_goto (tgt := 11) hx hb dX8_countRight_35 (by decide) ?_
  exact Kh0 _ _ _ _ _ (Option.some.inj hF).symm _ (lv_sub hl [1, 2, 3, 4, 0] rfl)
set_option maxHeartbeats 4000000 in
set_option maxRecDepth 100000 in
theorem wX8_countRight_11 {p : Program} {l : Launch} {e : Env} {s : State} {m : MethodId} {args : Array Value} {below : List Frame} {meth : Method} {c : Code} {D : va_G} {cy : Nat → ClassId} (ad : Nat → Nat) (A : Nat → Prop) {S : MS} {r : Int32} {out : ((Nat × Int32 × Int32 × Int32 × Int32) ⊕ Int32)} {ls : Array Slot} {x0 : Nat} {x1 : Int32} {x2 : Int32} {x3 : Int32} {x4 : Int32} (C0 : CX p s m args meth c RX8 cX8_countRight 5 D cy) (M : MW D cy ad A S s.heap) (hr : meth.sig.returnType = some .int) (hF : bX8_countRight_11 S x0 x1 x2 x3 x4 = some out) (hl : lv_has ls 5 [(0, .ref (ad x0)), (1, .int x1), (2, .int x2), (3, .int x3), (4, .int x4)]) (Kr : ∀ r9, out = .inr r9 → r9 = r) (Kh0 : ∀ (y0 : Nat) (y1 : Int32) (y2 : Int32) (y3 : Int32) (y4 : Int32), out = .inl (y0, y1, y2, y3, y4) → ∀ (ls1 : Array Slot), lv_has ls1 5 [(0, .ref (ad y0)), (1, .int y1), (2, .int y2), (3, .int y3), (4, .int y4)] → W p l e rmX8_countRight s m args below meth c s.heap [] 0 0 (MQ below (QcS (some (.int r))) args s 0 0 (fun _ => False)) (F0 m 11 ls1 [])) : W p l e rmX8_countRight s m args below meth c s.heap [] 0 0 (MQ below (QcS (some (.int r))) args s 0 0 (fun _ => False)) (F0 m 11 ls []) := by
  unfold bX8_countRight_11 at hF
  obtain ⟨hx, hb, -, hown, -, hts, -⟩ := id C0
  refine lv_iload hx hb dX8_countRight_11 (lv_at hl 4 rfl) ?_
  refine lv_iload_n hx hb dX8_countRight_13 rfl (lv_at hl 3 rfl) ?_
  refine lv_icmp_ge (tgt := 38) hx hb dX8_countRight_14 (by decide) (fun hc => ?_) (fun hc => ?_)
  · have hF := oi_t hc hF
    refine lv_iload_n hx hb dX8_countRight_38 rfl (lv_at hl 2 rfl) ?_
    obtain rfl := (Kr _ (Option.some.inj hF).symm)
    exact rt_SI C0 hr dX8_countRight_39
  · have hF := oi_f hc hF
    refine lv_aload_n hx hb dX8_countRight_17 rfl (lv_at hl 0 rfl) ?_
    refine lv_iload_n hx hb dX8_countRight_18 rfl (lv_at hl 1 rfl) ?_
    refine lv_iload hx hb dX8_countRight_19 (lv_at hl 4 rfl) ?_
    obtain ⟨_, hrec, hF⟩ := ob hF
    obtain ⟨v21, hcl, hF⟩ := ob hF
    refine go_SI (r_V (rest := []) (As := [.int x1, .int x4]) C0 cb_X8_38 M hrec (tX8_filled l D cy ad A hcl) (pre_R C0 M) hl dX8_countRight_21 rfl (Nat.le_of_ble_eq_true rfl) ⟨rfl, rfl⟩ ⟨Nat.le_of_ble_eq_true rfl, Nat.le_of_ble_eq_true rfl⟩ ⟨Nat.le_of_ble_eq_true rfl, Nat.le_of_ble_eq_true rfl⟩ rfl) ?_
    refine lv_bipush (v := (-9 : Int32)) hx hb dX8_countRight_24 (by decide) ?_
    refine lv_icmp_eq (tgt := 32) hx hb dX8_countRight_26 (by decide) (fun hc => ?_) (fun hc => ?_)
    · have hF := oi_t hc hF
      exact wX8_countRight_32 ad A C0 M hr hF (lv_sub hl [0, 1, 2, 3, 4] rfl) Kr Kh0
    · have hF := oi_f hc hF
      obtain ⟨v29, hv, hF⟩ := ob hF
      refine lv_iinc (v := v29) (lv' := [(2, .int v29), (0, .ref (ad x0)), (1, .int x1), (3, .int x3), (4, .int x4)]) hx hb dX8_countRight_29 hl (k := 2) rfl (by rw [← vtI hv]; rfl) (by decide) rfl (fun ls hl => ?_)
      exact wX8_countRight_32 ad A C0 M hr hF (lv_sub hl [1, 2, 0, 3, 4] rfl) Kr Kh0
set_option maxHeartbeats 4000000 in
set_option maxRecDepth 100000 in
theorem tX8_countRight (l : Launch) (D : va_G) (cy : Nat → ClassId) (ad : Nat → Nat) (A : Nat → Prop) {S : MS} {a0 : Nat} {a1 : Int32} {r : Int32} (h : fX8_countRight S a0 a1 = some r) : Met l yX8_countRight [Cond.code yX8_countRight cX8_countRight 5 (some .int)] rmX8_countRight (PcR D cy ad A S [.ref (ad a0), .int a1]) (QcS (some (.int r))) 0 0 (fun _ => False) := by
  refine met_R (by decide +kernel) cw_X8_countRight (Nat.le_of_ble_eq_true rfl) ?_
  intro p e s m args below meth c ls C0 M hr hl
  have hl : lv_has ls 5 [(0, .ref (ad a0)), (1, .int a1)] := hl
  have key := lim_walk (step := sX8_countRight S) (fun (q : (Nat × Int32 × Int32 × Int32 × Int32)) (r9 : Int32) => ∀ (r : Int32), r9 = r → ((∀ (y0 : Nat) (y1 : Int32) (y2 : Int32) (y3 : Int32) (y4 : Int32), q = (y0, y1, y2, y3, y4) → ∀ (ls1 : Array Slot), lv_has ls1 5 [(0, .ref (ad y0)), (1, .int y1), (2, .int y2), (3, .int y3), (4, .int y4)] → W p l e rmX8_countRight s m args below meth c s.heap [] 0 0 (MQ below (QcS (some (.int r))) args s 0 0 (fun _ => False)) (F0 m 11 ls1 [])))) ?_
  · unfold fX8_countRight at h
    cases hs0 : bX8_countRight_0 S a0 a1 with
    | none => rw [hs0] at h; cases h
    | some out =>
      rw [hs0] at h
      refine wX8_countRight_0 ad A C0 M hr hs0 hl (fun r9 hr9 => ?_) ?_
      · subst hr9; exact Option.some.inj h
      · intro y0 y1 y2 y3 y4 hq; subst hq; exact (key _ _ h _ rfl) _ _ _ _ _ rfl
  · intro q r9 out hst hre hin9
    intro r er; subst er
    refine ?_
    · intro y0 y1 y2 y3 y4 hq ls1 hl
      subst hq
      exact wX8_countRight_11 ad A C0 M hr hst hl hre (fun k0 k1 k2 k3 k4 hk => (hin9 _ hk _ rfl) _ _ _ _ _ rfl)
