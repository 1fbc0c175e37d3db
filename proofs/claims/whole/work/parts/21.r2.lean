theorem cw_X10_areGates : Cond.code yX10_areGates cX10_areGates 6 (some .boolean) ∈ UW := (uw_of 1470 (by decide +kernel) rfl)
theorem fl_X10_146 : FL RX10 146 11 0 0 .int 0 := ⟨RX10, "ChartRoomModel", TX10, 58, tyX10, rfl, iu_11, tyX10_ok, nmX10, by decide, rfl, by decide, (uw_of 1071 (by decide +kernel) rfl), Or.inl rfl, tyX10_ok 0 (by decide), (fun _ => rfl), (fun h => by cases h), rfl⟩
theorem cw_X10_failed : Cond.code yX10_failed cX10_failed 2 (some .int) ∈ UW := (uw_of 1295 (by decide +kernel) rfl)
theorem cw_X10_refused : Cond.code yX10_refused cX10_refused 2 (some .int) ∈ UW := (uw_of 1291 (by decide +kernel) rfl)
theorem cb_X10_218 : CBV RX10 218 yX10_failed cX10_failed 2 (some .int) 1 11 := ⟨⟨cw_X10_failed, ini_ChartRoomModel, by decide, (uw_of 1292 (by decide +kernel) rfl)⟩, (uw_of 1294 (by decide +kernel) rfl), (uw_of 42 (by decide +kernel) rfl), by decide, TX10, 58, rfl⟩
theorem cb_X10_215 : CBV RX10 215 yX10_refused cX10_refused 2 (some .int) 1 11 := ⟨⟨cw_X10_refused, ini_ChartRoomModel, by decide, (uw_of 1288 (by decide +kernel) rfl)⟩, (uw_of 1290 (by decide +kernel) rfl), (uw_of 41 (by decide +kernel) rfl), by decide, TX10, 58, rfl⟩
theorem cw_X10_as : Cond.code yX10_as cX10_as 3 (some .int) ∈ UW := (uw_of 1632 (by decide +kernel) rfl)
theorem cw_X10_isLet : Cond.code yX10_isLet cX10_isLet 3 (some .boolean) ∈ UW := (uw_of 1487 (by decide +kernel) rfl)
theorem cb_X10_316 : CBV RX10 316 yX10_isLet cX10_isLet 3 (some .boolean) 2 11 := ⟨⟨cw_X10_isLet, ini_ChartRoomModel, by decide, (uw_of 1484 (by decide +kernel) rfl)⟩, (uw_of 1486 (by decide +kernel) rfl), (uw_of 68 (by decide +kernel) rfl), by decide, TX10, 58, rfl⟩
theorem cw_X10_bendsAt : Cond.code yX10_bendsAt cX10_bendsAt 8 (some .int) ∈ UW := (uw_of 1482 (by decide +kernel) rfl)
theorem cw_X10_isShift : Cond.code yX10_isShift cX10_isShift 2 (some .boolean) ∈ UW := (uw_of 1538 (by decide +kernel) rfl)
theorem cw_X10_valueMoved : Cond.code yX10_valueMoved cX10_valueMoved 5 (some .int) ∈ UW := (uw_of 1543 (by decide +kernel) rfl)
theorem fl_X10_372 : FL RX10 372 11 41 0 .int 0 := ⟨RX10, "ChartRoomModel", TX10, 58, tyX10, rfl, iu_11, tyX10_ok, nmX10, by decide, rfl, by decide, (uw_of 1112 (by decide +kernel) rfl), Or.inl rfl, tyX10_ok 41 (by decide), (fun _ => rfl), (fun h => by cases h), rfl⟩
theorem fl_X10_375 : FL RX10 375 11 42 1 .long 0 := ⟨RX10, "ChartRoomModel", TX10, 58, tyX10, rfl, iu_11, tyX10_ok, nmX10, by decide, rfl, by decide, (uw_of 1113 (by decide +kernel) rfl), Or.inl rfl, tyX10_ok 42 (by decide), (fun _ => rfl), (fun h => by cases h), rfl⟩
theorem fl_X10_379 : FL RX10 379 11 43 1 .long 0 := ⟨RX10, "ChartRoomModel", TX10, 58, tyX10, rfl, iu_11, tyX10_ok, nmX10, by decide, rfl, by decide, (uw_of 1114 (by decide +kernel) rfl), Or.inl rfl, tyX10_ok 43 (by decide), (fun _ => rfl), (fun h => by cases h), rfl⟩
theorem cb_X10_369 : CBV RX10 369 yX10_valueMoved cX10_valueMoved 5 (some .int) 4 11 := ⟨⟨cw_X10_valueMoved, ini_ChartRoomModel, by decide, (uw_of 1540 (by decide +kernel) rfl)⟩, (uw_of 1542 (by decide +kernel) rfl), (uw_of 76 (by decide +kernel) rfl), by decide, TX10, 58, rfl⟩
theorem cw_X10_layBeside : Cond.code yX10_layBeside cX10_layBeside 7 (none) ∈ UW := (uw_of 1559 (by decide +kernel) rfl)
theorem cw_X10_lost : Cond.code yX10_lost cX10_lost 0 (some .long) ∈ UW := (uw_of 1554 (by decide +kernel) rfl)
theorem cb_X10_149 : CBS RX10 149 yX10_lost cX10_lost 0 (some .long) 0 := ⟨⟨cw_X10_lost, ini_ChartRoomModel, by decide, (uw_of 1552 (by decide +kernel) rfl)⟩, (uw_of 1553 (by decide +kernel) rfl)⟩
theorem cb_X10_366 : CBS RX10 366 yX10_isShift cX10_isShift 2 (some .boolean) 2 := ⟨⟨cw_X10_isShift, ini_ChartRoomModel, by decide, (uw_of 1536 (by decide +kernel) rfl)⟩, (uw_of 1537 (by decide +kernel) rfl)⟩
theorem cb_X10_382 : CBV RX10 382 yX10_layBeside cX10_layBeside 7 (none) 3 11 := ⟨⟨cw_X10_layBeside, ini_ChartRoomModel, by decide, (uw_of 1556 (by decide +kernel) rfl)⟩, (uw_of 1558 (by decide +kernel) rfl), (uw_of 77 (by decide +kernel) rfl), by decide, TX10, 58, rfl⟩
theorem cw_X10_beside : Cond.code yX10_beside cX10_beside 5 (some .long) ∈ UW := (uw_of 1551 (by decide +kernel) rfl)
theorem cw_X10_failedLong : Cond.code yX10_failedLong cX10_failedLong 2 (some .long) ∈ UW := (uw_of 1612 (by decide +kernel) rfl)
theorem cw_X10_noCell : Cond.code yX10_noCell cX10_noCell 3 (some .int) ∈ UW := (uw_of 1604 (by decide +kernel) rfl)
theorem cw_X10_noSheet : Cond.code yX10_noSheet cX10_noSheet 1 (some .boolean) ∈ UW := (uw_of 1286 (by decide +kernel) rfl)
theorem cb_X10_411 : CBV RX10 411 yX10_noCell cX10_noCell 3 (some .int) 2 11 := ⟨⟨cw_X10_noCell, ini_ChartRoomModel, by decide, (uw_of 1601 (by decide +kernel) rfl)⟩, (uw_of 1603 (by decide +kernel) rfl), (uw_of 80 (by decide +kernel) rfl), by decide, TX10, 58, rfl⟩
theorem cb_X10_414 : CBV RX10 414 yX10_failedLong cX10_failedLong 2 (some .long) 1 11 := ⟨⟨cw_X10_failedLong, ini_ChartRoomModel, by decide, (uw_of 1609 (by decide +kernel) rfl)⟩, (uw_of 1611 (by decide +kernel) rfl), (uw_of 81 (by decide +kernel) rfl), by decide, TX10, 58, rfl⟩
theorem cb_X10_212 : CBS RX10 212 yX10_noSheet cX10_noSheet 1 (some .boolean) 1 := ⟨⟨cw_X10_noSheet, ini_ChartRoomModel, by decide, (uw_of 1284 (by decide +kernel) rfl)⟩, (uw_of 1285 (by decide +kernel) rfl)⟩
theorem cw_X10_cell : Cond.code yX10_cell cX10_cell 4 (some .long) ∈ UW := (uw_of 1608 (by decide +kernel) rfl)
theorem cw_X10_isBeyond : Cond.code yX10_isBeyond cX10_isBeyond 4 (some .boolean) ∈ UW := (uw_of 1299 (by decide +kernel) rfl)
theorem cb_X10_223 : CBS RX10 223 yX10_isBeyond cX10_isBeyond 4 (some .boolean) 3 := ⟨⟨cw_X10_isBeyond, ini_ChartRoomModel, by decide, (uw_of 1297 (by decide +kernel) rfl)⟩, (uw_of 1298 (by decide +kernel) rfl)⟩
theorem cw_X10_copy : Cond.code yX10_copy cX10_copy 7 (some .int) ∈ UW := (uw_of 1616 (by decide +kernel) rfl)
theorem cw_X10_costOf : Cond.code yX10_costOf cX10_costOf 6 (some .int) ∈ UW := (uw_of 1515 (by decide +kernel) rfl)
theorem cw_X10_noWire : Cond.code yX10_noWire cX10_noWire 2 (some .boolean) ∈ UW := (uw_of 1321 (by decide +kernel) rfl)
theorem cb_X10_234 : CBV RX10 234 yX10_noWire cX10_noWire 2 (some .boolean) 1 11 := ⟨⟨cw_X10_noWire, ini_ChartRoomModel, by decide, (uw_of 1318 (by decide +kernel) rfl)⟩, (uw_of 1320 (by decide +kernel) rfl), (uw_of 46 (by decide +kernel) rfl), by decide, TX10, 58, rfl⟩
theorem cw_X10_digit : Cond.code yX10_digit cX10_digit 5 (some .int) ∈ UW := (uw_of 1379 (by decide +kernel) rfl)
theorem cw_X10_doubted : Cond.code yX10_doubted cX10_doubted 1 (some .int) ∈ UW := (uw_of 1425 (by decide +kernel) rfl)
theorem cw_X10_goesOn : Cond.code yX10_goesOn cX10_goesOn 6 (some .boolean) ∈ UW := (uw_of 1495 (by decide +kernel) rfl)
theorem cb_X10_319 : CBV RX10 319 yX10_bendsAt cX10_bendsAt 8 (some .int) 4 11 := ⟨⟨cw_X10_bendsAt, ini_ChartRoomModel, by decide, (uw_of 1479 (by decide +kernel) rfl)⟩, (uw_of 1481 (by decide +kernel) rfl), (uw_of 67 (by decide +kernel) rfl), by decide, TX10, 58, rfl⟩
theorem cw_X10_layToCome : Cond.code yX10_layToCome cX10_layToCome 6 (none) ∈ UW := (uw_of 1478 (by decide +kernel) rfl)
theorem cb_X10_323 : CBV RX10 323 yX10_layToCome cX10_layToCome 6 (none) 2 11 := ⟨⟨cw_X10_layToCome, ini_ChartRoomModel, by decide, (uw_of 1475 (by decide +kernel) rfl)⟩, (uw_of 1477 (by decide +kernel) rfl), (uw_of 66 (by decide +kernel) rfl), by decide, TX10, 58, rfl⟩
theorem cb_X10_327 : CBV RX10 327 yX10_goesOn cX10_goesOn 6 (some .boolean) 5 11 := ⟨⟨cw_X10_goesOn, ini_ChartRoomModel, by decide, (uw_of 1492 (by decide +kernel) rfl)⟩, (uw_of 1494 (by decide +kernel) rfl), (uw_of 70 (by decide +kernel) rfl), by decide, TX10, 58, rfl⟩
theorem cw_X10_drawInto : Cond.code yX10_drawInto cX10_drawInto 11 (some .int) ∈ UW := (uw_of 1491 (by decide +kernel) rfl)
theorem cw_X10_layGates : Cond.code yX10_layGates cX10_layGates 6 (none) ∈ UW := (uw_of 1474 (by decide +kernel) rfl)
theorem cb_X10_337 : CBV RX10 337 yX10_drawInto cX10_drawInto 11 (some .int) 3 11 := ⟨⟨cw_X10_drawInto, ini_ChartRoomModel, by decide, (uw_of 1488 (by decide +kernel) rfl)⟩, (uw_of 1490 (by decide +kernel) rfl), (uw_of 69 (by decide +kernel) rfl), by decide, TX10, 58, rfl⟩
theorem cb_X10_331 : CBV RX10 331 yX10_areGates cX10_areGates 6 (some .boolean) 2 11 := ⟨⟨cw_X10_areGates, ini_ChartRoomModel, by decide, (uw_of 1467 (by decide +kernel) rfl)⟩, (uw_of 1469 (by decide +kernel) rfl), (uw_of 64 (by decide +kernel) rfl), by decide, TX10, 58, rfl⟩
theorem cb_X10_334 : CBV RX10 334 yX10_layGates cX10_layGates 6 (none) 2 11 := ⟨⟨cw_X10_layGates, ini_ChartRoomModel, by decide, (uw_of 1471 (by decide +kernel) rfl)⟩, (uw_of 1473 (by decide +kernel) rfl), (uw_of 65 (by decide +kernel) rfl), by decide, TX10, 58, rfl⟩
theorem cw_X10_drawn : Cond.code yX10_drawn cX10_drawn 11 (some .int) ∈ UW := (uw_of 1466 (by decide +kernel) rfl)
theorem cb_X10_342 : CBV RX10 342 yX10_drawn cX10_drawn 11 (some .int) 6 11 := ⟨⟨cw_X10_drawn, ini_ChartRoomModel, by decide, (uw_of 1463 (by decide +kernel) rfl)⟩, (uw_of 1465 (by decide +kernel) rfl), (uw_of 63 (by decide +kernel) rfl), by decide, TX10, 58, rfl⟩
theorem cw_X10_draw : Cond.code yX10_draw cX10_draw 9 (some .int) ∈ UW := (uw_of 1462 (by decide +kernel) rfl)
abbrev rmX10_areGates : Room := { frames := 1, cells := 0, slots := 0, locals := 25 }
abbrev rmX10_failed : Room := { frames := 0, cells := 0, slots := 0, locals := 0 }
abbrev rmX10_refused : Room := { frames := 0, cells := 0, slots := 0, locals := 0 }
abbrev rmX10_as : Room := { frames := 2, cells := 0, slots := 0, locals := 46 }
abbrev rmX10_isLet : Room := { frames := 1, cells := 0, slots := 0, locals := 25 }
abbrev rmX10_bendsAt : Room := { frames := 2, cells := 0, slots := 0, locals := 47 }
abbrev rmX10_isShift : Room := { frames := 1, cells := 0, slots := 0, locals := 25 }
abbrev rmX10_valueMoved : Room := { frames := 2, cells := 0, slots := 0, locals := 46 }
abbrev rmX10_layBeside : Room := { frames := 3, cells := 0, slots := 0, locals := 70 }
abbrev rmX10_lost : Room := { frames := 0, cells := 0, slots := 0, locals := 0 }
abbrev rmX10_beside : Room := { frames := 5, cells := 0, slots := 0, locals := 121 }
abbrev rmX10_failedLong : Room := { frames := 1, cells := 0, slots := 0, locals := 19 }
abbrev rmX10_noCell : Room := { frames := 1, cells := 0, slots := 0, locals := 25 }
abbrev rmX10_noSheet : Room := { frames := 1, cells := 0, slots := 0, locals := 25 }
abbrev rmX10_cell : Room := { frames := 2, cells := 0, slots := 0, locals := 47 }
abbrev rmX10_isBeyond : Room := { frames := 0, cells := 0, slots := 0, locals := 0 }
abbrev rmX10_copy : Room := { frames := 2, cells := 0, slots := 0, locals := 45 }
abbrev rmX10_costOf : Room := { frames := 1, cells := 0, slots := 0, locals := 25 }
abbrev rmX10_noWire : Room := { frames := 1, cells := 0, slots := 0, locals := 25 }
abbrev rmX10_digit : Room := { frames := 2, cells := 0, slots := 0, locals := 46 }
abbrev rmX10_doubted : Room := { frames := 5, cells := 0, slots := 0, locals := 121 }
abbrev rmX10_goesOn : Room := { frames := 2, cells := 0, slots := 0, locals := 47 }
abbrev rmX10_layToCome : Room := { frames := 3, cells := 0, slots := 0, locals := 74 }
abbrev rmX10_drawInto : Room := { frames := 4, cells := 0, slots := 0, locals := 99 }
abbrev rmX10_layGates : Room := { frames := 1, cells := 0, slots := 0, locals := 21 }
abbrev rmX10_drawn : Room := { frames := 5, cells := 0, slots := 0, locals := 129 }
abbrev rmX10_draw : Room := { frames := 6, cells := 0, slots := 0, locals := 159 }
noncomputable def bX10_areGates_0 (S : MS) (x0 : Nat) (x1 : Int32) (x2 : Int32) : Option ((Nat × Int32 × Int32 × Int32 × Int32) ⊕ Int32) :=
  some (.inl (x0, x1, x2, (1 : Int32), (0 : Int32)))
noncomputable def bX10_areGates_95 (S : MS) (x0 : Nat) (x1 : Int32) (x2 : Int32) (x4 : Int32) (z0 : Int32) : Option ((Nat × Int32 × Int32 × Int32 × Int32) ⊕ Int32) :=
  (some (x4 + 1)).bind fun v96 =>
  some (.inl (x0, x1, x2, z0, v96))
noncomputable def bX10_areGates_94 (S : MS) (x0 : Nat) (x1 : Int32) (x2 : Int32) (x4 : Int32) : Option ((Nat × Int32 × Int32 × Int32 × Int32) ⊕ Int32) :=
  bX10_areGates_95 S x0 x1 x2 x4 (0 : Int32)
noncomputable def bX10_areGates_5 (S : MS) (x0 : Nat) (x1 : Int32) (x2 : Int32) (x3 : Int32) (x4 : Int32) : Option ((Nat × Int32 × Int32 × Int32 × Int32) ⊕ Int32) :=
  if x2 ≤ x4 then
    (o_zb x3).bind fun z103 =>
    some (.inr z103)
  else
    (some ((x1 + ((3 : Int32) * x4)))).bind fun v17 =>
    if x3 = 0 then
      bX10_areGates_94 S x0 x1 x2 x4
    else
      (o_gP S x0 11 55).bind fun v24 =>
      (o_ld S v24 12 v17).bind fun v29 =>
      (fX10_in (v29.toInt64) (0 : Int64) (11 : Int64)).bind fun v35 =>
      if v35 = 0 then
        bX10_areGates_94 S x0 x1 x2 x4
      else
        (o_gP S x0 11 55).bind fun v42 =>
        (o_ld S v42 12 (v17 + (1 : Int32))).bind fun v49 =>
        (fX10_in (v49.toInt64) (0 : Int64) (11 : Int64)).bind fun v55 =>
        if v55 = 0 then
          bX10_areGates_94 S x0 x1 x2 x4
        else
          (o_gP S x0 11 55).bind fun v62 =>
          (o_ld S v62 12 (v17 + (2 : Int32))).bind fun v69 =>
          (o_gP S x0 11 55).bind fun v72 =>
          (o_ld S v72 12 (v17 + (1 : Int32))).bind fun v79 =>
          (fX10_in (v69.toInt64) (v79.toInt64) (11 : Int64)).bind fun v84 =>
          if v84 = 0 then
            bX10_areGates_94 S x0 x1 x2 x4
          else
            bX10_areGates_95 S x0 x1 x2 x4 (1 : Int32)
noncomputable def sX10_areGates (S : MS) : (Nat × Int32 × Int32 × Int32 × Int32) → Option ((Nat × Int32 × Int32 × Int32 × Int32) ⊕ Int32) := (fun t => bX10_areGates_5 S t.1 t.2.1 t.2.2.1 t.2.2.2.1 t.2.2.2.2)
noncomputable def hX10_areGates_5 (S : MS) (x0 : Nat) (x1 : Int32) (x2 : Int32) (x3 : Int32) (x4 : Int32) : Option Int32 := lim (sX10_areGates S) (x0, x1, x2, x3, x4)
theorem qX10_areGates_5 (S : MS) (x0 : Nat) (x1 : Int32) (x2 : Int32) (x3 : Int32) (x4 : Int32) : hX10_areGates_5 S x0 x1 x2 x3 x4 = fin (sX10_areGates S) (bX10_areGates_5 S x0 x1 x2 x3 x4) := lim_eq _ _
noncomputable def fX10_areGates (S : MS) (a0 : Nat) (a1 : Int32) (a2 : Int32) : Option Int32 := fin (sX10_areGates S) (bX10_areGates_0 S a0 a1 a2)
noncomputable def bX10_failed_0 (S : MS) (x0 : Nat) (x1 : Int32) : Option (Int32 × MS) :=
  (o_sI S x0 11 0 x1).bind fun S2 =>
  some (((-10 : Int32) - x1), S2)
noncomputable def fX10_failed (S : MS) (a0 : Nat) (a1 : Int32) : Option (Int32 × MS) := bX10_failed_0 S a0 a1
noncomputable def bX10_refused_0 (S : MS) (x0 : Nat) (x1 : Int32) : Option (Int32 × MS) :=
  (o_sI S x0 11 0 (0 : Int32)).bind fun S2 =>
  some (x1, S2)
noncomputable def fX10_refused (S : MS) (a0 : Nat) (a1 : Int32) : Option (Int32 × MS) := bX10_refused_0 S a0 a1
noncomputable def bX10_as_56 (S : MS) (z0 : Int32) : Option (Int32 × MS) :=
  some (z0, S)
noncomputable def bX10_as_0 (S : MS) (x0 : Nat) (x1 : Int32) (x2 : Int32) : Option (Int32 × MS) :=
  (o_is S x0 11).bind fun _ =>
  (fX10_noPost S x0 x1).bind fun v2 =>
  if v2 = 0 then
    (fX10_in (x2.toInt64) (0 : Int64) (2 : Int64)).bind fun v20 =>
    if v20 = 0 then
      (o_is S x0 11).bind fun _ =>
      b2 (fX10_refused S x0 (-2 : Int32)) fun v29 S29 =>
      some (v29, S29)
    else
      (o_gP S x0 11 2).bind fun v34 =>
      (o_ld S v34 12 x1).bind fun v38 =>
      if v38 < x2 then
        (o_is S x0 11).bind fun _ =>
        b2 (fX10_failed S x0 (2 : Int32)) fun v53 S53 =>
        bX10_as_56 S53 v53
      else
        (o_is S x0 11).bind fun _ =>
        b2 (fX10_refused S x0 (1 : Int32)) fun v45 S45 =>
        bX10_as_56 S45 v45
  else
    (o_is S x0 11).bind fun _ =>
    b2 (fX10_refused S x0 (-1 : Int32)) fun v10 S10 =>
    some (v10, S10)
noncomputable def fX10_as (S : MS) (a0 : Nat) (a1 : Int32) (a2 : Int32) : Option (Int32 × MS) := bX10_as_0 S a0 a1 a2
noncomputable def bX10_isLet_37 (S : MS) (z0 : Int32) : Option Int32 :=
  (o_zb z0).bind fun z37 =>
  some z37
noncomputable def bX10_isLet_36 (S : MS) : Option Int32 :=
  bX10_isLet_37 S (0 : Int32)
noncomputable def bX10_isLet_0 (S : MS) (x0 : Nat) (x1 : Int32) (x2 : Int32) : Option Int32 :=
  (fX10_in (x2.toInt64) (0 : Int64) (11 : Int64)).bind fun v6 =>
  if v6 = 0 then
    bX10_isLet_36 S
  else
    (o_gP S x0 11 34).bind fun v14 =>
    (o_ld S v14 12 x1).bind fun v18 =>
    if x2 < v18 then
      bX10_isLet_36 S
    else
      (o_gP S x0 11 35).bind fun v24 =>
      (o_ld S v24 12 x1).bind fun v28 =>
      if v28 < x2 then
        bX10_isLet_36 S
      else
        bX10_isLet_37 S (1 : Int32)
noncomputable def fX10_isLet (S : MS) (a0 : Nat) (a1 : Int32) (a2 : Int32) : Option Int32 := bX10_isLet_0 S a0 a1 a2
noncomputable def bX10_bendsAt_0 (S : MS) (x0 : Nat) (x1 : Int32) (x2 : Int32) (x3 : Int32) (x4 : Int32) : Option ((Nat × Int32 × Int32 × Int32 × Int32 × Int32) ⊕ Int32) :=
  if x1 = x4 then
    some (.inr (0 : Int32))
  else
    some (.inl (x0, x1, x2, x3, (1000000 : Int32), (-2 : Int32)))
noncomputable def bX10_bendsAt_97 (S : MS) (x0 : Nat) (x1 : Int32) (x2 : Int32) (x3 : Int32) (x5 : Int32) (x6 : Int32) : Option ((Nat × Int32 × Int32 × Int32 × Int32 × Int32) ⊕ Int32) :=
  (some (x6 + 1)).bind fun v97 =>
  some (.inl (x0, x1, x2, x3, x5, v97))
noncomputable def bX10_bendsAt_95 (S : MS) (x0 : Nat) (x1 : Int32) (x2 : Int32) (x3 : Int32) (x6 : Int32) (z0 : Int32) : Option ((Nat × Int32 × Int32 × Int32 × Int32 × Int32) ⊕ Int32) :=
  bX10_bendsAt_97 S x0 x1 x2 x3 z0 x6
noncomputable def bX10_bendsAt_55 (S : MS) (x0 : Nat) (x1 : Int32) (x2 : Int32) (x3 : Int32) (x5 : Int32) (x6 : Int32) (z0 : Int32) : Option ((Nat × Int32 × Int32 × Int32 × Int32 × Int32) ⊕ Int32) :=
  (o_gP S x0 11 36).bind fun v56 =>
  (o_ld S v56 12 (((((60 : Int32) * (x1 + (1 : Int32))) + ((5 : Int32) * (x2 + x6))) + x6) + (2 : Int32))).bind fun v77 =>
  (some ((z0 + v77))).bind fun v79 =>
  if x5 ≤ v79 then
    bX10_bendsAt_95 S x0 x1 x2 x3 x6 x5
  else
    bX10_bendsAt_95 S x0 x1 x2 x3 x6 v79
noncomputable def bX10_bendsAt_17 (S : MS) (x0 : Nat) (x1 : Int32) (x2 : Int32) (x3 : Int32) (x5 : Int32) (x6 : Int32) : Option ((Nat × Int32 × Int32 × Int32 × Int32 × Int32) ⊕ Int32) :=
  if (2 : Int32) < x6 then
    some (.inr x5)
  else
    (o_is S x0 11).bind fun _ =>
    (fX10_isLet S x0 (x1 + (1 : Int32)) (x2 + x6)).bind fun v31 =>
    if v31 = 0 then
      bX10_bendsAt_97 S x0 x1 x2 x3 x5 x6
    else
      if x3 = (5 : Int32) then
        bX10_bendsAt_55 S x0 x1 x2 x3 x5 x6 (0 : Int32)
      else
        (fX10_sizeOf ((x6 + (2 : Int32)) - x3)).bind fun v52 =>
        bX10_bendsAt_55 S x0 x1 x2 x3 x5 x6 v52
noncomputable def sX10_bendsAt (S : MS) : (Nat × Int32 × Int32 × Int32 × Int32 × Int32) → Option ((Nat × Int32 × Int32 × Int32 × Int32 × Int32) ⊕ Int32) := (fun t => bX10_bendsAt_17 S t.1 t.2.1 t.2.2.1 t.2.2.2.1 t.2.2.2.2.1 t.2.2.2.2.2)
noncomputable def hX10_bendsAt_17 (S : MS) (x0 : Nat) (x1 : Int32) (x2 : Int32) (x3 : Int32) (x5 : Int32) (x6 : Int32) : Option Int32 := lim (sX10_bendsAt S) (x0, x1, x2, x3, x5, x6)
theorem qX10_bendsAt_17 (S : MS) (x0 : Nat) (x1 : Int32) (x2 : Int32) (x3 : Int32) (x5 : Int32) (x6 : Int32) : hX10_bendsAt_17 S x0 x1 x2 x3 x5 x6 = fin (sX10_bendsAt S) (bX10_bendsAt_17 S x0 x1 x2 x3 x5 x6) := lim_eq _ _
noncomputable def fX10_bendsAt (S : MS) (a0 : Nat) (a1 : Int32) (a2 : Int32) (a3 : Int32) (a4 : Int32) : Option Int32 := fin (sX10_bendsAt S) (bX10_bendsAt_0 S a0 a1 a2 a3 a4)
noncomputable def bX10_isShift_33 (z0 : Int32) : Option Int32 :=
  (o_zb z0).bind fun z33 =>
  some z33
noncomputable def bX10_isShift_32 : Option Int32 :=
  bX10_isShift_33 (0 : Int32)
noncomputable def bX10_isShift_0 (x0 : Int32) (x1 : Int32) : Option Int32 :=
  (fX10_in (x0.toInt64) (-11 : Int64) (11 : Int64)).bind fun v8 =>
  if v8 = 0 then
    bX10_isShift_32
  else
    (fX10_in (x1.toInt64) (-11 : Int64) (11 : Int64)).bind fun v22 =>
    if v22 = 0 then
      bX10_isShift_32
    else
      bX10_isShift_33 (1 : Int32)
noncomputable def fX10_isShift (a0 : Int32) (a1 : Int32) : Option Int32 := bX10_isShift_0 a0 a1
noncomputable def bX10_valueMoved_34 (S : MS) (z0 : Int32) : Option Int32 :=
  some z0
noncomputable def bX10_valueMoved_0 (S : MS) (x0 : Nat) (x1 : Int32) (x2 : Int32) (x3 : Int32) (x4 : Int32) : Option Int32 :=
  (fX10_isPlace (x3 - x1) (x4 - x2)).bind fun v7 =>
  if v7 = 0 then
    bX10_valueMoved_34 S (-9 : Int32)
  else
    (o_gP S x0 11 24).bind fun v14 =>
    (o_ld S v14 12 ((((12 : Int32) * (x4 - x2)) + x3) - x1)).bind fun v28 =>
    bX10_valueMoved_34 S v28
noncomputable def fX10_valueMoved (S : MS) (a0 : Nat) (a1 : Int32) (a2 : Int32) (a3 : Int32) (a4 : Int32) : Option Int32 := bX10_valueMoved_0 S a0 a1 a2 a3 a4
noncomputable def bX10_layBeside_0 (S : MS) (x0 : Nat) (x1 : Int32) (x2 : Int32) (x3 : Int32) : Option ((Nat × Int32 × Int32 × Int32 × Int32 × MS) ⊕ MS) :=
  (o_sI S x0 11 41 (0 : Int32)).bind fun S2 =>
  (o_sJ S2 x0 11 42 (0 : Int64)).bind fun S7 =>
  (o_sJ S7 x0 11 43 (0 : Int64)).bind fun S12 =>
  some (.inl (x0, x1, x2, x3, (0 : Int32), S12))
noncomputable def bX10_layBeside_116 (S : MS) (x0 : Nat) (x1 : Int32) (x2 : Int32) (x3 : Int32) (x4 : Int32) : Option ((Nat × Int32 × Int32 × Int32 × Int32 × MS) ⊕ MS) :=
  (some (x4 + 1)).bind fun v116 =>
  some (.inl (x0, x1, x2, x3, v116, S))
noncomputable def bX10_layBeside_18 (S : MS) (x0 : Nat) (x1 : Int32) (x2 : Int32) (x3 : Int32) (x4 : Int32) : Option ((Nat × Int32 × Int32 × Int32 × Int32 × MS) ⊕ MS) :=
  if (144 : Int32) ≤ x4 then
    some (.inr S)
  else
    (o_is S x0 11).bind fun _ =>
    (fX10_valueMoved S x0 x1 x2 (x4 - x4 / (12 : Int32) * (12 : Int32)) (x4 / (12 : Int32))).bind fun v39 =>
    (o_gP S x0 11 40).bind fun v45 =>
    (o_ld S v45 12 (((144 : Int32) * x3) + x4)).bind fun v56 =>
    if v39 = (-9 : Int32) then
      bX10_layBeside_116 S x0 x1 x2 x3 x4
    else
      if v56 = (-9 : Int32) then
        bX10_layBeside_116 S x0 x1 x2 x3 x4
      else
        (o_gI S x0 11 41).bind fun v75 =>
        (o_sI S x0 11 41 (v75 + (1 : Int32))).bind fun S80 =>
        (o_gJ S80 x0 11 42).bind fun v85 =>
        (fX10_sizeOf (v39 - v56)).bind fun v93 =>
        (o_sJ S80 x0 11 42 (v85 + (v93.toInt64))).bind fun S98 =>
        (o_gJ S98 x0 11 43).bind fun v103 =>
        (o_sJ S98 x0 11 43 (v103 + ((v39 - v56).toInt64))).bind fun S113 =>
        bX10_layBeside_116 S113 x0 x1 x2 x3 x4
noncomputable def sX10_layBeside : (Nat × Int32 × Int32 × Int32 × Int32 × MS) → Option ((Nat × Int32 × Int32 × Int32 × Int32 × MS) ⊕ MS) := (fun t => bX10_layBeside_18 t.2.2.2.2.2 t.1 t.2.1 t.2.2.1 t.2.2.2.1 t.2.2.2.2.1)
noncomputable def hX10_layBeside_18 (S : MS) (x0 : Nat) (x1 : Int32) (x2 : Int32) (x3 : Int32) (x4 : Int32) : Option MS := lim (sX10_layBeside) (x0, x1, x2, x3, x4, S)
theorem qX10_layBeside_18 (S : MS) (x0 : Nat) (x1 : Int32) (x2 : Int32) (x3 : Int32) (x4 : Int32) : hX10_layBeside_18 S x0 x1 x2 x3 x4 = fin (sX10_layBeside) (bX10_layBeside_18 S x0 x1 x2 x3 x4) := lim_eq _ _
noncomputable def fX10_layBeside (S : MS) (a0 : Nat) (a1 : Int32) (a2 : Int32) (a3 : Int32) : Option MS := fin (sX10_layBeside) (bX10_layBeside_0 S a0 a1 a2 a3)
noncomputable def bX10_lost_0 : Option Int64 :=
  some (-9223372036854775808 : Int64)
noncomputable def fX10_lost : Option Int64 := bX10_lost_0
noncomputable def bX10_beside_42 (S : MS) : Option (Int64 × MS) :=
  (fX10_lost).bind fun v42 =>
  some (v42, S)
noncomputable def bX10_beside_87 (S : MS) (z0 : Int64) : Option (Int64 × MS) :=
  some (z0, S)
noncomputable def bX10_beside_0 (S : MS) (x0 : Nat) (x1 : Int32) (x2 : Int32) (x3 : Int32) (x4 : Int32) : Option (Int64 × MS) :=
  (fX10_isShift x1 x2).bind fun v2 =>
  if v2 = 0 then
    bX10_beside_42 S
  else
    (fX10_in (x4.toInt64) (0 : Int64) (2 : Int64)).bind fun v15 =>
    if v15 = 0 then
      bX10_beside_42 S
    else
      (fX10_in (x3.toInt64) (0 : Int64) (3 : Int64)).bind fun v27 =>
      if v27 = 0 then
        bX10_beside_42 S
      else
        (o_gP S x0 11 39).bind fun v34 =>
        (o_ld S v34 13 x3).bind fun v38 =>
        if v38 = 0 then
          bX10_beside_42 S
        else
          (o_is S x0 11).bind fun _ =>
          (fX10_layChart S x0).bind fun S47 =>
          (o_is S47 x0 11).bind fun _ =>
          (fX10_layBeside S47 x0 x1 x2 x3).bind fun S54 =>
          if x4 = 0 then
            (o_gI S54 x0 11 41).bind fun v63 =>
            bX10_beside_87 S54 (v63.toInt64)
          else
            if x4 = (1 : Int32) then
              (o_gJ S54 x0 11 42).bind fun v77 =>
              bX10_beside_87 S54 v77
            else
              (o_gJ S54 x0 11 43).bind fun v84 =>
              bX10_beside_87 S54 v84
noncomputable def fX10_beside (S : MS) (a0 : Nat) (a1 : Int32) (a2 : Int32) (a3 : Int32) (a4 : Int32) : Option (Int64 × MS) := bX10_beside_0 S a0 a1 a2 a3 a4
noncomputable def bX10_failedLong_0 (S : MS) (x0 : Nat) (x1 : Int32) : Option (Int64 × MS) :=
  (o_sI S x0 11 0 x1).bind fun S2 =>
  (fX10_lost).bind fun v5 =>
  some (v5, S2)
noncomputable def fX10_failedLong (S : MS) (a0 : Nat) (a1 : Int32) : Option (Int64 × MS) := bX10_failedLong_0 S a0 a1
noncomputable def bX10_noCell_36 (S : MS) (z0 : Int32) : Option Int32 :=
  some z0
noncomputable def bX10_noCell_0 (S : MS) (x0 : Nat) (x1 : Int32) (x2 : Int32) : Option Int32 :=
  (o_gP S x0 11 53).bind fun v1 =>
  (o_ld S v1 12 x1).bind fun v5 =>
  if 0 ≤ v5 then
    (o_gP S x0 11 53).bind fun v17 =>
    (o_ld S v17 12 x1).bind fun v21 =>
    (fX10_in (x2.toInt64) (0 : Int64) ((v21.toInt64) - (1 : Int64))).bind fun v25 =>
    if v25 = 0 then
      bX10_noCell_36 S (3 : Int32)
    else
      bX10_noCell_36 S (0 : Int32)
  else
    bX10_noCell_36 S (1 : Int32)
noncomputable def fX10_noCell (S : MS) (a0 : Nat) (a1 : Int32) (a2 : Int32) : Option Int32 := bX10_noCell_0 S a0 a1 a2
noncomputable def bX10_noSheet_17 (z0 : Int32) : Option Int32 :=
  (o_zb z0).bind fun z17 =>
  some z17
noncomputable def bX10_noSheet_0 (x0 : Int32) : Option Int32 :=
  (fX10_in (x0.toInt64) (0 : Int64) (3 : Int64)).bind fun v6 =>
  if v6 = 0 then
    bX10_noSheet_17 (1 : Int32)
  else
    bX10_noSheet_17 (0 : Int32)
noncomputable def fX10_noSheet (a0 : Int32) : Option Int32 := bX10_noSheet_0 a0
noncomputable def bX10_cell_24 (S : MS) : Option (Int64 × MS) :=
  (fX10_lost).bind fun v24 =>
  some (v24, S)
noncomputable def bX10_cell_87 (S : MS) (z0 : Int64) : Option (Int64 × MS) :=
  some (z0, S)
noncomputable def bX10_cell_53 (S : MS) (x0 : Nat) (x1 : Int32) (x2 : Int32) : Option (Int64 × MS) :=
  (o_is S x0 11).bind fun _ =>
  (fX10_noCell S x0 x1 x2).bind fun v56 =>
  if v56 ≤ 0 then
    (o_gP S x0 11 55).bind fun v76 =>
    (o_ld S v76 12 (((60 : Int32) * x1) + x2)).bind fun v85 =>
    bX10_cell_87 S (v85.toInt64)
  else
    (o_is S x0 11).bind fun _ =>
    (fX10_noCell S x0 x1 x2).bind fun v66 =>
    (o_is S x0 11).bind fun _ =>
    b2 (fX10_failedLong S x0 v66) fun v69 S69 =>
    bX10_cell_87 S69 v69
noncomputable def bX10_cell_0 (S : MS) (x0 : Nat) (x1 : Int32) (x2 : Int32) (x3 : Int32) : Option (Int64 × MS) :=
  (o_sI S x0 11 0 (0 : Int32)).bind fun S2 =>
  (fX10_noSheet x1).bind fun v6 =>
  if v6 = 0 then
    (fX10_in (x3.toInt64) (0 : Int64) (2 : Int64)).bind fun v18 =>
    if v18 = 0 then
      bX10_cell_24 S2
    else
      (o_gP S2 x0 11 53).bind fun v29 =>
      (o_ld S2 v29 12 x1).bind fun v33 =>
      if v33 < 0 then
        bX10_cell_53 S2 x0 x1 x2
      else
        (o_gP S2 x0 11 54).bind fun v38 =>
        (o_ld S2 v38 12 x1).bind fun v42 =>
        if v42 = x3 then
          bX10_cell_53 S2 x0 x1 x2
        else
          (o_is S2 x0 11).bind fun _ =>
          b2 (fX10_failedLong S2 x0 (2 : Int32)) fun v49 S49 =>
          some (v49, S49)
  else
    bX10_cell_24 S2
noncomputable def fX10_cell (S : MS) (a0 : Nat) (a1 : Int32) (a2 : Int32) (a3 : Int32) : Option (Int64 × MS) := bX10_cell_0 S a0 a1 a2 a3
noncomputable def bX10_isBeyond_25 (z0 : Int32) : Option Int32 :=
  (o_zb z0).bind fun z25 =>
  some z25
noncomputable def bX10_isBeyond_20 : Option Int32 :=
  bX10_isBeyond_25 (1 : Int32)
noncomputable def bX10_isBeyond_0 (x0 : Int32) (x1 : Int64) (x3 : Int32) : Option Int32 :=
  if x0 < 0 then
    bX10_isBeyond_20
  else
    if (lg_cmp x1 (0 : Int64)) < 0 then
      bX10_isBeyond_20
    else
      if (lg_cmp ((x0.toInt64) + x1) (x3.toInt64)) ≤ 0 then
        bX10_isBeyond_25 (0 : Int32)
      else
        bX10_isBeyond_20
noncomputable def fX10_isBeyond (a0 : Int32) (a1 : Int64) (a3 : Int32) : Option Int32 := bX10_isBeyond_0 a0 a1 a3
noncomputable def bX10_copy_14 (S : MS) (x0 : Nat) : Option (((Nat × Int32 × Int32 × Int32 × Int32 × Int32 × Int32 × MS) ⊕ (Nat × Int32 × Int32 × Int32 × Int32 × MS)) ⊕ (Int32 × MS)) :=
  (o_is S x0 11).bind fun _ =>
  b2 (fX10_refused S x0 (-1 : Int32)) fun v16 S16 =>
  some (.inr (v16, S16))
noncomputable def bX10_copy_38 (S : MS) (x0 : Nat) : Option (((Nat × Int32 × Int32 × Int32 × Int32 × Int32 × Int32 × MS) ⊕ (Nat × Int32 × Int32 × Int32 × Int32 × MS)) ⊕ (Int32 × MS)) :=
  (o_is S x0 11).bind fun _ =>
  b2 (fX10_failed S x0 (1 : Int32)) fun v40 S40 =>
  some (.inr (v40, S40))
noncomputable def bX10_copy_98 (S : MS) (x0 : Nat) : Option (((Nat × Int32 × Int32 × Int32 × Int32 × Int32 × Int32 × MS) ⊕ (Nat × Int32 × Int32 × Int32 × Int32 × MS)) ⊕ (Int32 × MS)) :=
  (o_is S x0 11).bind fun _ =>
  b2 (fX10_failed S x0 (3 : Int32)) fun v100 S100 =>
  some (.inr (v100, S100))
noncomputable def bX10_copy_0 (S : MS) (x0 : Nat) (x1 : Int32) (x2 : Int32) (x3 : Int32) (x4 : Int32) (x5 : Int32) : Option (((Nat × Int32 × Int32 × Int32 × Int32 × Int32 × Int32 × MS) ⊕ (Nat × Int32 × Int32 × Int32 × Int32 × MS)) ⊕ (Int32 × MS)) :=
  (fX10_noSheet x1).bind fun v1 =>
  if v1 = 0 then
    (fX10_noSheet x3).bind fun v8 =>
    if v8 = 0 then
      (o_gP S x0 11 53).bind fun v21 =>
      (o_ld S v21 12 x1).bind fun v25 =>
      if v25 < 0 then
        bX10_copy_38 S x0
      else
        (o_gP S x0 11 53).bind fun v30 =>
        (o_ld S v30 12 x3).bind fun v34 =>
        if 0 ≤ v34 then
          (o_gP S x0 11 54).bind fun v45 =>
          (o_ld S v45 12 x1).bind fun v49 =>
          (o_gP S x0 11 54).bind fun v51 =>
          (o_ld S v51 12 x3).bind fun v55 =>
          if v49 = v55 then
            (o_gP S x0 11 53).bind fun v70 =>
            (o_ld S v70 12 x1).bind fun v74 =>
            (fX10_isBeyond x2 (x5.toInt64) v74).bind fun v75 =>
            if v75 = 0 then
              (o_gP S x0 11 53).bind fun v87 =>
              (o_ld S v87 12 x3).bind fun v91 =>
              (fX10_isBeyond x4 (x5.toInt64) v91).bind fun v92 =>
              if v92 = 0 then
                some (.inl (.inl (x0, x1, x2, x3, x4, x5, (0 : Int32), S)))
              else
                bX10_copy_98 S x0
            else
              bX10_copy_98 S x0
          else
            (o_is S x0 11).bind fun _ =>
            b2 (fX10_failed S x0 (2 : Int32)) fun v61 S61 =>
            some (.inr (v61, S61))
        else
          bX10_copy_38 S x0
    else
      bX10_copy_14 S x0
  else
    bX10_copy_14 S x0
noncomputable def bX10_copy_107 (S : MS) (x0 : Nat) (x1 : Int32) (x2 : Int32) (x3 : Int32) (x4 : Int32) (x5 : Int32) (x6 : Int32) : Option (((Nat × Int32 × Int32 × Int32 × Int32 × Int32 × Int32 × MS) ⊕ (Nat × Int32 × Int32 × Int32 × Int32 × MS)) ⊕ (Int32 × MS)) :=
  if x5 ≤ x6 then
    some (.inl (.inr (x0, x3, x4, x5, (0 : Int32), S)))
  else
    (o_gP S x0 11 56).bind fun v115 =>
    (o_gP S x0 11 55).bind fun v121 =>
    (o_ld S v121 12 ((((60 : Int32) * x1) + x2) + x6)).bind fun v133 =>
    (o_st S v115 12 x6 v133).bind fun S134 =>
    (some (x6 + 1)).bind fun v135 =>
    some (.inl (.inl (x0, x1, x2, x3, x4, x5, v135, S134)))
noncomputable def bX10_copy_144 (S : MS) (x0 : Nat) (x3 : Int32) (x4 : Int32) (x5 : Int32) (x6 : Int32) : Option (((Nat × Int32 × Int32 × Int32 × Int32 × Int32 × Int32 × MS) ⊕ (Nat × Int32 × Int32 × Int32 × Int32 × MS)) ⊕ (Int32 × MS)) :=
  if x5 ≤ x6 then
    (o_is S x0 11).bind fun _ =>
    b2 (fX10_refused S x0 x5) fun v182 S182 =>
    some (.inr (v182, S182))
  else
    (o_gP S x0 11 55).bind fun v152 =>
    (o_gP S x0 11 56).bind fun v166 =>
    (o_ld S v166 12 x6).bind fun v171 =>
    (o_st S v152 12 ((((60 : Int32) * x3) + x4) + x6) v171).bind fun S172 =>
    (some (x6 + 1)).bind fun v173 =>
    some (.inl (.inr (x0, x3, x4, x5, v173, S172)))
noncomputable def sX10_copy : ((Nat × Int32 × Int32 × Int32 × Int32 × Int32 × Int32 × MS) ⊕ (Nat × Int32 × Int32 × Int32 × Int32 × MS)) → Option (((Nat × Int32 × Int32 × Int32 × Int32 × Int32 × Int32 × MS) ⊕ (Nat × Int32 × Int32 × Int32 × Int32 × MS)) ⊕ (Int32 × MS)) := (Sum.elim (fun t => bX10_copy_107 t.2.2.2.2.2.2.2 t.1 t.2.1 t.2.2.1 t.2.2.2.1 t.2.2.2.2.1 t.2.2.2.2.2.1 t.2.2.2.2.2.2.1) (fun t => bX10_copy_144 t.2.2.2.2.2 t.1 t.2.1 t.2.2.1 t.2.2.2.1 t.2.2.2.2.1))
noncomputable def hX10_copy_107 (S : MS) (x0 : Nat) (x1 : Int32) (x2 : Int32) (x3 : Int32) (x4 : Int32) (x5 : Int32) (x6 : Int32) : Option (Int32 × MS) := lim (sX10_copy) (.inl (x0, x1, x2, x3, x4, x5, x6, S))
theorem qX10_copy_107 (S : MS) (x0 : Nat) (x1 : Int32) (x2 : Int32) (x3 : Int32) (x4 : Int32) (x5 : Int32) (x6 : Int32) : hX10_copy_107 S x0 x1 x2 x3 x4 x5 x6 = fin (sX10_copy) (bX10_copy_107 S x0 x1 x2 x3 x4 x5 x6) := lim_eq _ _
noncomputable def hX10_copy_144 (S : MS) (x0 : Nat) (x3 : Int32) (x4 : Int32) (x5 : Int32) (x6 : Int32) : Option (Int32 × MS) := lim (sX10_copy) (.inr (x0, x3, x4, x5, x6, S))
theorem qX10_copy_144 (S : MS) (x0 : Nat) (x3 : Int32) (x4 : Int32) (x5 : Int32) (x6 : Int32) : hX10_copy_144 S x0 x3 x4 x5 x6 = fin (sX10_copy) (bX10_copy_144 S x0 x3 x4 x5 x6) := lim_eq _ _
noncomputable def fX10_copy (S : MS) (a0 : Nat) (a1 : Int32) (a2 : Int32) (a3 : Int32) (a4 : Int32) (a5 : Int32) : Option (Int32 × MS) := fin (sX10_copy) (bX10_copy_0 S a0 a1 a2 a3 a4 a5)
noncomputable def bX10_costOf_0 (S : MS) (x0 : Nat) (x1 : Int32) (x2 : Int32) : Option ((Nat × Int32 × Int32 × Int32 × Int32 × Int32) ⊕ Int32) :=
  some (.inl (x0, x1, x2, (0 : Int32), (0 : Int32), (0 : Int32)))
noncomputable def bX10_costOf_101 (S : MS) (x0 : Nat) (x1 : Int32) (x2 : Int32) (x3 : Int32) (x4 : Int32) (x5 : Int32) : Option ((Nat × Int32 × Int32 × Int32 × Int32 × Int32) ⊕ Int32) :=
  (some (x5 + 1)).bind fun v101 =>
  some (.inl (x0, x1, x2, x3, x4, v101))
noncomputable def bX10_costOf_136 (S : MS) (z0 : Int32) : Option ((Nat × Int32 × Int32 × Int32 × Int32 × Int32) ⊕ Int32) :=
  some (.inr z0)
noncomputable def bX10_costOf_133 (S : MS) : Option ((Nat × Int32 × Int32 × Int32 × Int32 × Int32) ⊕ Int32) :=
  bX10_costOf_136 S (1000000 : Int32)
noncomputable def bX10_costOf_8 (S : MS) (x0 : Nat) (x1 : Int32) (x2 : Int32) (x3 : Int32) (x4 : Int32) (x5 : Int32) : Option ((Nat × Int32 × Int32 × Int32 × Int32 × Int32) ⊕ Int32) :=
  if (12 : Int32) ≤ x5 then
    if x4 = 0 then
      bX10_costOf_133 S
    else
      (o_gP S x0 11 29).bind fun v113 =>
      (o_ld S v113 12 x1).bind fun v117 =>
      (o_gP S x0 11 29).bind fun v119 =>
      (o_ld S v119 12 ((5 : Int32) + x2)).bind fun v125 =>
      if v117 = v125 then
        bX10_costOf_136 S x3
      else
        bX10_costOf_133 S
  else
    (o_gP S x0 11 30).bind fun v19 =>
    (o_ld S v19 12 x1).bind fun v23 =>
    (o_gP S x0 11 31).bind fun v26 =>
    (o_ld S v26 12 x1).bind fun v30 =>
    (fX10_in (x5.toInt64) (v23.toInt64) (v30.toInt64)).bind fun v32 =>
    if v32 = 0 then
      bX10_costOf_101 S x0 x1 x2 x3 x4 x5
    else
      (o_gP S x0 11 30).bind fun v42 =>
      (o_ld S v42 12 ((5 : Int32) + x2)).bind fun v48 =>
      (o_gP S x0 11 31).bind fun v51 =>
      (o_ld S v51 12 ((5 : Int32) + x2)).bind fun v57 =>
      (fX10_in (x5.toInt64) (v48.toInt64) (v57.toInt64)).bind fun v59 =>
      if v59 = 0 then
        bX10_costOf_101 S x0 x1 x2 x3 x4 x5
      else
        (o_gP S x0 11 33).bind fun v70 =>
        (o_ld S v70 12 (((12 : Int32) * x1) + x5)).bind fun v80 =>
        (o_gP S x0 11 33).bind fun v82 =>
        (o_ld S v82 12 (((12 : Int32) * ((5 : Int32) + x2)) + x5)).bind fun v94 =>
        (fX10_sizeOf (v80 - v94)).bind fun v96 =>
        (some ((x3 + v96))).bind fun v100 =>
        bX10_costOf_101 S x0 x1 x2 v100 (1 : Int32) x5
noncomputable def sX10_costOf (S : MS) : (Nat × Int32 × Int32 × Int32 × Int32 × Int32) → Option ((Nat × Int32 × Int32 × Int32 × Int32 × Int32) ⊕ Int32) := (fun t => bX10_costOf_8 S t.1 t.2.1 t.2.2.1 t.2.2.2.1 t.2.2.2.2.1 t.2.2.2.2.2)
noncomputable def hX10_costOf_8 (S : MS) (x0 : Nat) (x1 : Int32) (x2 : Int32) (x3 : Int32) (x4 : Int32) (x5 : Int32) : Option Int32 := lim (sX10_costOf S) (x0, x1, x2, x3, x4, x5)
theorem qX10_costOf_8 (S : MS) (x0 : Nat) (x1 : Int32) (x2 : Int32) (x3 : Int32) (x4 : Int32) (x5 : Int32) : hX10_costOf_8 S x0 x1 x2 x3 x4 x5 = fin (sX10_costOf S) (bX10_costOf_8 S x0 x1 x2 x3 x4 x5) := lim_eq _ _
noncomputable def fX10_costOf (S : MS) (a0 : Nat) (a1 : Int32) (a2 : Int32) : Option Int32 := fin (sX10_costOf S) (bX10_costOf_0 S a0 a1 a2)
noncomputable def bX10_noWire_21 (S : MS) (z0 : Int32) : Option Int32 :=
  (o_zb z0).bind fun z21 =>
  some z21
noncomputable def bX10_noWire_0 (S : MS) (x0 : Nat) (x1 : Int32) : Option Int32 :=
  (o_gI S x0 11 8).bind fun v4 =>
  (fX10_in (x1.toInt64) (0 : Int64) ((v4.toInt64) - (1 : Int64))).bind fun v10 =>
  if v10 = 0 then
    bX10_noWire_21 S (1 : Int32)
  else
    bX10_noWire_21 S (0 : Int32)
noncomputable def fX10_noWire (S : MS) (a0 : Nat) (a1 : Int32) : Option Int32 := bX10_noWire_0 S a0 a1
noncomputable def bX10_digit_34 (S : MS) : Option Int32 :=
  some (-2 : Int32)
noncomputable def bX10_digit_66 (S : MS) (z0 : Int32) : Option Int32 :=
  some z0
noncomputable def bX10_digit_0 (S : MS) (x0 : Nat) (x1 : Int32) (x2 : Int32) (x3 : Int32) : Option Int32 :=
  (o_is S x0 11).bind fun _ =>
  (fX10_noWire S x0 x1).bind fun v2 =>
  if v2 = 0 then
    (fX10_in (x2.toInt64) (0 : Int64) (2 : Int64)).bind fun v16 =>
    if v16 = 0 then
      bX10_digit_34 S
    else
      (fX10_in (x3.toInt64) (0 : Int64) (4 : Int64)).bind fun v28 =>
      if v28 = 0 then
        bX10_digit_34 S
      else
        (o_gP S x0 11 12).bind fun v38 =>
        (o_ld S v38 12 ((((15 : Int32) * x1) + ((5 : Int32) * x2)) + x3)).bind fun v51 =>
        if 0 ≤ v51 then
          bX10_digit_66 S v51
        else
          bX10_digit_66 S (-9 : Int32)
  else
    some (-1 : Int32)
noncomputable def fX10_digit (S : MS) (a0 : Nat) (a1 : Int32) (a2 : Int32) (a3 : Int32) : Option Int32 := bX10_digit_0 S a0 a1 a2 a3
noncomputable def bX10_doubted_0 (S : MS) (x0 : Nat) : Option (Int32 × MS) :=
  (o_is S x0 11).bind fun _ =>
  (fX10_layChart S x0).bind fun S1 =>
  (o_gI S1 x0 11 23).bind fun v5 =>
  some (v5, S1)
noncomputable def fX10_doubted (S : MS) (a0 : Nat) : Option (Int32 × MS) := bX10_doubted_0 S a0
noncomputable def bX10_goesOn_64 (S : MS) (z0 : Int32) : Option Int32 :=
  (o_zb z0).bind fun z64 =>
  some z64
noncomputable def bX10_goesOn_63 (S : MS) : Option Int32 :=
  bX10_goesOn_64 S (0 : Int32)
noncomputable def bX10_goesOn_32 (S : MS) (x0 : Nat) (x1 : Int32) (x2 : Int32) (x3 : Int32) (x5 : Int32) (z0 : Int32) : Option Int32 :=
  (o_gP S x0 11 36).bind fun v33 =>
  (o_ld S v33 12 (((((60 : Int32) * (x1 + (1 : Int32))) + ((5 : Int32) * (x2 + x3))) + x3) + (2 : Int32))).bind fun v52 =>
  if (z0 + v52) = x5 then
    bX10_goesOn_64 S (1 : Int32)
  else
    bX10_goesOn_63 S
noncomputable def bX10_goesOn_0 (S : MS) (x0 : Nat) (x1 : Int32) (x2 : Int32) (x3 : Int32) (x4 : Int32) (x5 : Int32) : Option Int32 :=
  (o_is S x0 11).bind fun _ =>
  (fX10_isLet S x0 (x1 + (1 : Int32)) (x2 + x3)).bind fun v7 =>
  if v7 = 0 then
    bX10_goesOn_63 S
  else
    if x4 = (5 : Int32) then
      bX10_goesOn_32 S x0 x1 x2 x3 x5 (0 : Int32)
    else
      (fX10_sizeOf ((x3 + (2 : Int32)) - x4)).bind fun v29 =>
      bX10_goesOn_32 S x0 x1 x2 x3 x5 v29
noncomputable def fX10_goesOn (S : MS) (a0 : Nat) (a1 : Int32) (a2 : Int32) (a3 : Int32) (a4 : Int32) (a5 : Int32) : Option Int32 := bX10_goesOn_0 S a0 a1 a2 a3 a4 a5
noncomputable def bX10_layToCome_0 (S : MS) (x0 : Nat) (x1 : Int32) (x2 : Int32) : Option (((Nat × Int32 × Int32 × Int32 × MS) ⊕ ((Nat × Int32 × Int32 × Int32 × Int32 × MS) ⊕ (Nat × Int32 × Int32 × Int32 × Int32 × Int32 × MS))) ⊕ MS) :=
  some (.inl (.inl (x0, x1, x2, x2, S)))
noncomputable def bX10_layToCome_2 (S : MS) (x0 : Nat) (x1 : Int32) (x2 : Int32) (x3 : Int32) : Option (((Nat × Int32 × Int32 × Int32 × MS) ⊕ ((Nat × Int32 × Int32 × Int32 × Int32 × MS) ⊕ (Nat × Int32 × Int32 × Int32 × Int32 × Int32 × MS))) ⊕ MS) :=
  if x3 ≤ x1 then
    some (.inr S)
  else
    some (.inl (.inr (.inl (x0, x1, x2, x3, (0 : Int32), S))))
noncomputable def bX10_layToCome_10 (S : MS) (x0 : Nat) (x1 : Int32) (x2 : Int32) (x3 : Int32) (x4 : Int32) : Option (((Nat × Int32 × Int32 × Int32 × MS) ⊕ ((Nat × Int32 × Int32 × Int32 × Int32 × MS) ⊕ (Nat × Int32 × Int32 × Int32 × Int32 × Int32 × MS))) ⊕ MS) :=
  if (12 : Int32) ≤ x4 then
    (some (x3 + (-1))).bind fun v65 =>
    some (.inl (.inl (x0, x1, x2, v65, S)))
  else
    some (.inl (.inr (.inr (x0, x1, x2, x3, x4, (0 : Int32), S))))
noncomputable def bX10_layToCome_20 (S : MS) (x0 : Nat) (x1 : Int32) (x2 : Int32) (x3 : Int32) (x4 : Int32) (x5 : Int32) : Option (((Nat × Int32 × Int32 × Int32 × MS) ⊕ ((Nat × Int32 × Int32 × Int32 × Int32 × MS) ⊕ (Nat × Int32 × Int32 × Int32 × Int32 × Int32 × MS))) ⊕ MS) :=
  if (5 : Int32) ≤ x5 then
    (some (x4 + 1)).bind fun v59 =>
    some (.inl (.inr (.inl (x0, x1, x2, x3, v59, S))))
  else
    (o_gP S x0 11 36).bind fun v27 =>
    (o_is S x0 11).bind fun _ =>
    (fX10_bendsAt S x0 x3 x4 x5 x2).bind fun v49 =>
    (o_st S v27 12 ((((60 : Int32) * x3) + ((5 : Int32) * x4)) + x5) v49).bind fun S52 =>
    (some (x5 + 1)).bind fun v53 =>
    some (.inl (.inr (.inr (x0, x1, x2, x3, x4, v53, S52))))
noncomputable def sX10_layToCome : ((Nat × Int32 × Int32 × Int32 × MS) ⊕ ((Nat × Int32 × Int32 × Int32 × Int32 × MS) ⊕ (Nat × Int32 × Int32 × Int32 × Int32 × Int32 × MS))) → Option (((Nat × Int32 × Int32 × Int32 × MS) ⊕ ((Nat × Int32 × Int32 × Int32 × Int32 × MS) ⊕ (Nat × Int32 × Int32 × Int32 × Int32 × Int32 × MS))) ⊕ MS) := (Sum.elim (fun t => bX10_layToCome_2 t.2.2.2.2 t.1 t.2.1 t.2.2.1 t.2.2.2.1) (Sum.elim (fun t => bX10_layToCome_10 t.2.2.2.2.2 t.1 t.2.1 t.2.2.1 t.2.2.2.1 t.2.2.2.2.1) (fun t => bX10_layToCome_20 t.2.2.2.2.2.2 t.1 t.2.1 t.2.2.1 t.2.2.2.1 t.2.2.2.2.1 t.2.2.2.2.2.1)))
noncomputable def hX10_layToCome_2 (S : MS) (x0 : Nat) (x1 : Int32) (x2 : Int32) (x3 : Int32) : Option MS := lim (sX10_layToCome) (.inl (x0, x1, x2, x3, S))
theorem qX10_layToCome_2 (S : MS) (x0 : Nat) (x1 : Int32) (x2 : Int32) (x3 : Int32) : hX10_layToCome_2 S x0 x1 x2 x3 = fin (sX10_layToCome) (bX10_layToCome_2 S x0 x1 x2 x3) := lim_eq _ _
noncomputable def hX10_layToCome_10 (S : MS) (x0 : Nat) (x1 : Int32) (x2 : Int32) (x3 : Int32) (x4 : Int32) : Option MS := lim (sX10_layToCome) (.inr (.inl (x0, x1, x2, x3, x4, S)))
theorem qX10_layToCome_10 (S : MS) (x0 : Nat) (x1 : Int32) (x2 : Int32) (x3 : Int32) (x4 : Int32) : hX10_layToCome_10 S x0 x1 x2 x3 x4 = fin (sX10_layToCome) (bX10_layToCome_10 S x0 x1 x2 x3 x4) := lim_eq _ _
noncomputable def hX10_layToCome_20 (S : MS) (x0 : Nat) (x1 : Int32) (x2 : Int32) (x3 : Int32) (x4 : Int32) (x5 : Int32) : Option MS := lim (sX10_layToCome) (.inr (.inr (x0, x1, x2, x3, x4, x5, S)))
theorem qX10_layToCome_20 (S : MS) (x0 : Nat) (x1 : Int32) (x2 : Int32) (x3 : Int32) (x4 : Int32) (x5 : Int32) : hX10_layToCome_20 S x0 x1 x2 x3 x4 x5 = fin (sX10_layToCome) (bX10_layToCome_20 S x0 x1 x2 x3 x4 x5) := lim_eq _ _
noncomputable def fX10_layToCome (S : MS) (a0 : Nat) (a1 : Int32) (a2 : Int32) : Option MS := fin (sX10_layToCome) (bX10_layToCome_0 S a0 a1 a2)
noncomputable def bX10_drawInto_0 (S : MS) (x0 : Nat) (x1 : Int32) (x2 : Int32) (x3 : Int32) : Option (((Nat × Int32 × Int32 × Int32 × Int32 × Int32 × Int32 × MS) ⊕ ((Nat × Int32 × Int32 × Int32 × Int32 × Int32 × Int32 × Int32 × MS) ⊕ (Nat × Int32 × Int32 × Int32 × Int32 × Int32 × Int32 × Int32 × Int32 × MS))) ⊕ (Int32 × MS)) :=
  (o_is S x0 11).bind fun _ =>
  (fX10_layToCome S x0 x2 x3).bind fun S3 =>
  some (.inl (.inl (x0, x1, x2, x3, (-9 : Int32), (1000000 : Int32), (0 : Int32), S3)))
noncomputable def bX10_drawInto_82 (S : MS) (x0 : Nat) (x1 : Int32) (x2 : Int32) (x3 : Int32) (x4 : Int32) (x6 : Int32) (z0 : Int32) : Option (((Nat × Int32 × Int32 × Int32 × Int32 × Int32 × Int32 × MS) ⊕ ((Nat × Int32 × Int32 × Int32 × Int32 × Int32 × Int32 × Int32 × MS) ⊕ (Nat × Int32 × Int32 × Int32 × Int32 × Int32 × Int32 × Int32 × Int32 × MS))) ⊕ (Int32 × MS)) :=
  (some (x6 + 1)).bind fun v84 =>
  some (.inl (.inl (x0, x1, x2, x3, x4, z0, v84, S)))
noncomputable def bX10_drawInto_66 (S : MS) (x0 : Nat) (x1 : Int32) (x2 : Int32) (x3 : Int32) (x5 : Int32) (x6 : Int32) (x7 : Int32) (z0 : Int32) : Option (((Nat × Int32 × Int32 × Int32 × Int32 × Int32 × Int32 × MS) ⊕ ((Nat × Int32 × Int32 × Int32 × Int32 × Int32 × Int32 × Int32 × MS) ⊕ (Nat × Int32 × Int32 × Int32 × Int32 × Int32 × Int32 × Int32 × Int32 × MS))) ⊕ (Int32 × MS)) :=
  if x5 ≤ x7 then
    bX10_drawInto_82 S x0 x1 x2 x3 z0 x6 x5
  else
    bX10_drawInto_82 S x0 x1 x2 x3 z0 x6 x7
noncomputable def bX10_drawInto_50 (S : MS) (x0 : Nat) (x1 : Int32) (x2 : Int32) (x3 : Int32) (x4 : Int32) (x5 : Int32) (x6 : Int32) (z0 : Int32) : Option (((Nat × Int32 × Int32 × Int32 × Int32 × Int32 × Int32 × MS) ⊕ ((Nat × Int32 × Int32 × Int32 × Int32 × Int32 × Int32 × Int32 × MS) ⊕ (Nat × Int32 × Int32 × Int32 × Int32 × Int32 × Int32 × Int32 × Int32 × MS))) ⊕ (Int32 × MS)) :=
  if x5 ≤ z0 then
    bX10_drawInto_66 S x0 x1 x2 x3 x5 x6 z0 x4
  else
    bX10_drawInto_66 S x0 x1 x2 x3 x5 x6 z0 x6
noncomputable def bX10_drawInto_18 (S : MS) (x0 : Nat) (x1 : Int32) (x2 : Int32) (x3 : Int32) (x4 : Int32) (x5 : Int32) (x6 : Int32) : Option (((Nat × Int32 × Int32 × Int32 × Int32 × Int32 × Int32 × MS) ⊕ ((Nat × Int32 × Int32 × Int32 × Int32 × Int32 × Int32 × Int32 × MS) ⊕ (Nat × Int32 × Int32 × Int32 × Int32 × Int32 × Int32 × Int32 × Int32 × MS))) ⊕ (Int32 × MS)) :=
  if (12 : Int32) ≤ x6 then
    if x5 = (1000000 : Int32) then
      some (.inr ((1000000 : Int32), S))
    else
      (o_gP S x0 11 33).bind fun v114 =>
      (o_st S v114 12 (((12 : Int32) * x1) + x2) x4).bind fun S125 =>
      some (.inl (.inr (.inl (x0, x1, x3, x5, x4, (5 : Int32), x5, x2, S125))))
  else
    (o_is S x0 11).bind fun _ =>
    (fX10_isLet S x0 x2 x6).bind fun v29 =>
    if v29 = 0 then
      bX10_drawInto_50 S x0 x1 x2 x3 x4 x5 x6 (1000000 : Int32)
    else
      (o_is S x0 11).bind fun _ =>
      (fX10_bendsAt S x0 x2 x6 (5 : Int32) x3).bind fun v41 =>
      bX10_drawInto_50 S x0 x1 x2 x3 x4 x5 x6 v41
noncomputable def bX10_drawInto_129 (S : MS) (x0 : Nat) (x1 : Int32) (x3 : Int32) (x5 : Int32) (x6 : Int32) (x7 : Int32) (x8 : Int32) (x9 : Int32) : Option (((Nat × Int32 × Int32 × Int32 × Int32 × Int32 × Int32 × MS) ⊕ ((Nat × Int32 × Int32 × Int32 × Int32 × Int32 × Int32 × Int32 × MS) ⊕ (Nat × Int32 × Int32 × Int32 × Int32 × Int32 × Int32 × Int32 × Int32 × MS))) ⊕ (Int32 × MS)) :=
  if x3 ≤ x9 then
    some (.inr (x5, S))
  else
    some (.inl (.inr (.inr (x0, x1, x3, x5, x6, x7, x8, x9, (-2 : Int32), S))))
noncomputable def bX10_drawInto_184 (S : MS) (x0 : Nat) (x1 : Int32) (x3 : Int32) (x5 : Int32) (x6 : Int32) (x9 : Int32) (x10 : Int32) (z0 : Int32) (z1 : Int32) : Option (((Nat × Int32 × Int32 × Int32 × Int32 × Int32 × Int32 × MS) ⊕ ((Nat × Int32 × Int32 × Int32 × Int32 × Int32 × Int32 × Int32 × MS) ⊕ (Nat × Int32 × Int32 × Int32 × Int32 × Int32 × Int32 × Int32 × Int32 × MS))) ⊕ (Int32 × MS)) :=
  (some ((z0 - z1))).bind fun v185 =>
  (some ((x6 + x10))).bind fun v192 =>
  (some ((x10 + (2 : Int32)))).bind fun v198 =>
  (o_gP S x0 11 33).bind fun v201 =>
  (o_st S v201 12 ((((12 : Int32) * x1) + x9) + (1 : Int32)) v192).bind fun S215 =>
  (some (x9 + 1)).bind fun v216 =>
  some (.inl (.inr (.inl (x0, x1, x3, x5, v192, v198, v185, v216, S215))))
noncomputable def bX10_drawInto_139 (S : MS) (x0 : Nat) (x1 : Int32) (x3 : Int32) (x5 : Int32) (x6 : Int32) (x7 : Int32) (x8 : Int32) (x9 : Int32) (x10 : Int32) : Option (((Nat × Int32 × Int32 × Int32 × Int32 × Int32 × Int32 × MS) ⊕ ((Nat × Int32 × Int32 × Int32 × Int32 × Int32 × Int32 × Int32 × MS) ⊕ (Nat × Int32 × Int32 × Int32 × Int32 × Int32 × Int32 × Int32 × Int32 × MS))) ⊕ (Int32 × MS)) :=
  (o_is S x0 11).bind fun _ =>
  (fX10_goesOn S x0 x9 x6 x10 x7 x8).bind fun v150 =>
  if v150 = 0 then
    (some (x10 + 1)).bind fun v156 =>
    some (.inl (.inr (.inr (x0, x1, x3, x5, x6, x7, x8, x9, v156, S))))
  else
    if x7 = (5 : Int32) then
      bX10_drawInto_184 S x0 x1 x3 x5 x6 x9 x10 x8 (0 : Int32)
    else
      (fX10_sizeOf ((x10 + (2 : Int32)) - x7)).bind fun v181 =>
      bX10_drawInto_184 S x0 x1 x3 x5 x6 x9 x10 x8 v181
noncomputable def sX10_drawInto : ((Nat × Int32 × Int32 × Int32 × Int32 × Int32 × Int32 × MS) ⊕ ((Nat × Int32 × Int32 × Int32 × Int32 × Int32 × Int32 × Int32 × MS) ⊕ (Nat × Int32 × Int32 × Int32 × Int32 × Int32 × Int32 × Int32 × Int32 × MS))) → Option (((Nat × Int32 × Int32 × Int32 × Int32 × Int32 × Int32 × MS) ⊕ ((Nat × Int32 × Int32 × Int32 × Int32 × Int32 × Int32 × Int32 × MS) ⊕ (Nat × Int32 × Int32 × Int32 × Int32 × Int32 × Int32 × Int32 × Int32 × MS))) ⊕ (Int32 × MS)) := (Sum.elim (fun t => bX10_drawInto_18 t.2.2.2.2.2.2.2 t.1 t.2.1 t.2.2.1 t.2.2.2.1 t.2.2.2.2.1 t.2.2.2.2.2.1 t.2.2.2.2.2.2.1) (Sum.elim (fun t => bX10_drawInto_129 t.2.2.2.2.2.2.2.2 t.1 t.2.1 t.2.2.1 t.2.2.2.1 t.2.2.2.2.1 t.2.2.2.2.2.1 t.2.2.2.2.2.2.1 t.2.2.2.2.2.2.2.1) (fun t => bX10_drawInto_139 t.2.2.2.2.2.2.2.2.2 t.1 t.2.1 t.2.2.1 t.2.2.2.1 t.2.2.2.2.1 t.2.2.2.2.2.1 t.2.2.2.2.2.2.1 t.2.2.2.2.2.2.2.1 t.2.2.2.2.2.2.2.2.1)))
noncomputable def hX10_drawInto_18 (S : MS) (x0 : Nat) (x1 : Int32) (x2 : Int32) (x3 : Int32) (x4 : Int32) (x5 : Int32) (x6 : Int32) : Option (Int32 × MS) := lim (sX10_drawInto) (.inl (x0, x1, x2, x3, x4, x5, x6, S))
theorem qX10_drawInto_18 (S : MS) (x0 : Nat) (x1 : Int32) (x2 : Int32) (x3 : Int32) (x4 : Int32) (x5 : Int32) (x6 : Int32) : hX10_drawInto_18 S x0 x1 x2 x3 x4 x5 x6 = fin (sX10_drawInto) (bX10_drawInto_18 S x0 x1 x2 x3 x4 x5 x6) := lim_eq _ _
noncomputable def hX10_drawInto_129 (S : MS) (x0 : Nat) (x1 : Int32) (x3 : Int32) (x5 : Int32) (x6 : Int32) (x7 : Int32) (x8 : Int32) (x9 : Int32) : Option (Int32 × MS) := lim (sX10_drawInto) (.inr (.inl (x0, x1, x3, x5, x6, x7, x8, x9, S)))
theorem qX10_drawInto_129 (S : MS) (x0 : Nat) (x1 : Int32) (x3 : Int32) (x5 : Int32) (x6 : Int32) (x7 : Int32) (x8 : Int32) (x9 : Int32) : hX10_drawInto_129 S x0 x1 x3 x5 x6 x7 x8 x9 = fin (sX10_drawInto) (bX10_drawInto_129 S x0 x1 x3 x5 x6 x7 x8 x9) := lim_eq _ _
noncomputable def hX10_drawInto_139 (S : MS) (x0 : Nat) (x1 : Int32) (x3 : Int32) (x5 : Int32) (x6 : Int32) (x7 : Int32) (x8 : Int32) (x9 : Int32) (x10 : Int32) : Option (Int32 × MS) := lim (sX10_drawInto) (.inr (.inr (x0, x1, x3, x5, x6, x7, x8, x9, x10, S)))
theorem qX10_drawInto_139 (S : MS) (x0 : Nat) (x1 : Int32) (x3 : Int32) (x5 : Int32) (x6 : Int32) (x7 : Int32) (x8 : Int32) (x9 : Int32) (x10 : Int32) : hX10_drawInto_139 S x0 x1 x3 x5 x6 x7 x8 x9 x10 = fin (sX10_drawInto) (bX10_drawInto_139 S x0 x1 x3 x5 x6 x7 x8 x9 x10) := lim_eq _ _
noncomputable def fX10_drawInto (S : MS) (a0 : Nat) (a1 : Int32) (a2 : Int32) (a3 : Int32) : Option (Int32 × MS) := fin (sX10_drawInto) (bX10_drawInto_0 S a0 a1 a2 a3)
noncomputable def bX10_layGates_0 (S : MS) (x0 : Nat) (x1 : Int32) (x2 : Int32) : Option (((Nat × Int32 × Int32 × Int32 × MS) ⊕ (Nat × Int32 × Int32 × Int32 × MS)) ⊕ MS) :=
  some (.inl (.inl (x0, x1, x2, (0 : Int32), S)))
noncomputable def bX10_layGates_2 (S : MS) (x0 : Nat) (x1 : Int32) (x2 : Int32) (x3 : Int32) : Option (((Nat × Int32 × Int32 × Int32 × MS) ⊕ (Nat × Int32 × Int32 × Int32 × MS)) ⊕ MS) :=
  if (12 : Int32) ≤ x3 then
    some (.inl (.inr (x0, x1, x2, (0 : Int32), S)))
  else
    (o_gP S x0 11 34).bind fun v9 =>
    (o_st S v9 12 x3 (0 : Int32)).bind fun S14 =>
    (o_gP S14 x0 11 35).bind fun v16 =>
    (o_st S14 v16 12 x3 (11 : Int32)).bind fun S22 =>
    (some (x3 + 1)).bind fun v23 =>
    some (.inl (.inl (x0, x1, x2, v23, S22)))
noncomputable def bX10_layGates_122 (S : MS) (x0 : Nat) (x1 : Int32) (x2 : Int32) (x3 : Int32) (z0 : Nat) (z1 : Int32) (z2 : Int32) : Option (((Nat × Int32 × Int32 × Int32 × MS) ⊕ (Nat × Int32 × Int32 × Int32 × MS)) ⊕ MS) :=
  (o_st S z0 12 z1 z2).bind fun S122 =>
  (some (x3 + 1)).bind fun v123 =>
  some (.inl (.inr (x0, x1, x2, v123, S122)))
noncomputable def bX10_layGates_31 (S : MS) (x0 : Nat) (x1 : Int32) (x2 : Int32) (x3 : Int32) : Option (((Nat × Int32 × Int32 × Int32 × MS) ⊕ (Nat × Int32 × Int32 × Int32 × MS)) ⊕ MS) :=
  if x2 ≤ x3 then
    some (.inr S)
  else
    (some ((x1 + ((3 : Int32) * x3)))).bind fun v41 =>
    (o_gP S x0 11 55).bind fun v44 =>
    (o_ld S v44 12 v41).bind fun v49 =>
    (o_gP S x0 11 34).bind fun v53 =>
    (o_gP S x0 11 34).bind fun v59 =>
    (o_ld S v59 12 v49).bind fun v64 =>
    (o_gP S x0 11 55).bind fun v66 =>
    (o_ld S v66 12 (v41 + (1 : Int32))).bind fun v73 =>
    (fX10_greater v64 v73).bind fun v74 =>
    (o_st S v53 12 v49 v74).bind fun S77 =>
    (o_gP S77 x0 11 35).bind fun v79 =>
    (o_gP S77 x0 11 55).bind fun v85 =>
    (o_ld S77 v85 12 (v41 + (2 : Int32))).bind fun v92 =>
    (o_gP S77 x0 11 35).bind fun v94 =>
    (o_ld S77 v94 12 v49).bind fun v99 =>
    if v99 ≤ v92 then
      (o_gP S77 x0 11 35).bind fun v116 =>
      (o_ld S77 v116 12 v49).bind fun v121 =>
      bX10_layGates_122 S77 x0 x1 x2 x3 v79 v49 v121
    else
      (o_gP S77 x0 11 55).bind fun v104 =>
      (o_ld S77 v104 12 (v41 + (2 : Int32))).bind fun v111 =>
      bX10_layGates_122 S77 x0 x1 x2 x3 v79 v49 v111
noncomputable def sX10_layGates : ((Nat × Int32 × Int32 × Int32 × MS) ⊕ (Nat × Int32 × Int32 × Int32 × MS)) → Option (((Nat × Int32 × Int32 × Int32 × MS) ⊕ (Nat × Int32 × Int32 × Int32 × MS)) ⊕ MS) := (Sum.elim (fun t => bX10_layGates_2 t.2.2.2.2 t.1 t.2.1 t.2.2.1 t.2.2.2.1) (fun t => bX10_layGates_31 t.2.2.2.2 t.1 t.2.1 t.2.2.1 t.2.2.2.1))
noncomputable def hX10_layGates_2 (S : MS) (x0 : Nat) (x1 : Int32) (x2 : Int32) (x3 : Int32) : Option MS := lim (sX10_layGates) (.inl (x0, x1, x2, x3, S))
theorem qX10_layGates_2 (S : MS) (x0 : Nat) (x1 : Int32) (x2 : Int32) (x3 : Int32) : hX10_layGates_2 S x0 x1 x2 x3 = fin (sX10_layGates) (bX10_layGates_2 S x0 x1 x2 x3) := lim_eq _ _
noncomputable def hX10_layGates_31 (S : MS) (x0 : Nat) (x1 : Int32) (x2 : Int32) (x3 : Int32) : Option MS := lim (sX10_layGates) (.inr (x0, x1, x2, x3, S))
theorem qX10_layGates_31 (S : MS) (x0 : Nat) (x1 : Int32) (x2 : Int32) (x3 : Int32) : hX10_layGates_31 S x0 x1 x2 x3 = fin (sX10_layGates) (bX10_layGates_31 S x0 x1 x2 x3) := lim_eq _ _
noncomputable def fX10_layGates (S : MS) (a0 : Nat) (a1 : Int32) (a2 : Int32) : Option MS := fin (sX10_layGates) (bX10_layGates_0 S a0 a1 a2)
noncomputable def bX10_drawn_37 (S : MS) (x0 : Nat) (x1 : Int32) (x2 : Int32) (x3 : Int32) (x4 : Int32) (z0 : Int32) : Option ((Nat × Int32 × Int32 × Int32 × Int32 × MS) ⊕ (Int32 × MS)) :=
  if z0 = 0 then
    (o_gP S x0 11 28).bind fun v136 =>
    (o_ld S v136 12 x1).bind fun v140 =>
    (some ((((5 : Int32) * x1) + v140))).bind fun v142 =>
    (o_is S x0 11).bind fun _ =>
    b2 (fX10_drawInto S x0 v142 x3 x4) fun v150 S150 =>
    if v150 = (1000000 : Int32) then
      some (.inr ((-3 : Int32), S150))
    else
      (o_gP S150 x0 11 29).bind fun v167 =>
      (o_st S150 v167 12 v142 x2).bind fun S173 =>
      (o_gP S173 x0 11 30).bind fun v175 =>
      (o_st S173 v175 12 v142 x3).bind fun S181 =>
      (o_gP S181 x0 11 31).bind fun v183 =>
      (o_st S181 v183 12 v142 x4).bind fun S190 =>
      (o_gP S190 x0 11 32).bind fun v192 =>
      (o_st S190 v192 12 v142 v150).bind fun S199 =>
      (o_gP S199 x0 11 28).bind fun v201 =>
      (o_ld S199 v201 12 x1).bind fun v206 =>
      (o_st S199 v201 12 x1 (v206 + (1 : Int32))).bind fun S209 =>
      (o_gP S209 x0 11 28).bind fun v211 =>
      (o_ld S209 v211 12 x1).bind fun v215 =>
      some (.inr ((v215 - (1 : Int32)), S209))
  else
    (o_is S x0 11).bind fun _ =>
    (fX10_layToCome S x0 x3 x4).bind fun S48 =>
    some (.inl (x0, x3, x4, (1000000 : Int32), (0 : Int32), S48))
noncomputable def bX10_drawn_0 (S : MS) (x0 : Nat) (x1 : Int32) (x2 : Int32) (x3 : Int32) (x4 : Int32) (x5 : Int32) (x6 : Int32) : Option ((Nat × Int32 × Int32 × Int32 × Int32 × MS) ⊕ (Int32 × MS)) :=
  (o_is S x0 11).bind fun _ =>
  (fX10_areGates S x0 x5 x6).bind fun v5 =>
  if v5 = 0 then
    some (.inr ((-2 : Int32), S))
  else
    (o_is S x0 11).bind fun _ =>
    (fX10_layGates S x0 x5 x6).bind fun S19 =>
    (o_gP S19 x0 11 28).bind fun v23 =>
    (o_ld S19 v23 12 x1).bind fun v27 =>
    if v27 = (5 : Int32) then
      bX10_drawn_37 S19 x0 x1 x2 x3 x4 (1 : Int32)
    else
      bX10_drawn_37 S19 x0 x1 x2 x3 x4 (0 : Int32)
noncomputable def bX10_drawn_108 (S : MS) (x0 : Nat) (x3 : Int32) (x4 : Int32) (x9 : Int32) (z0 : Int32) : Option ((Nat × Int32 × Int32 × Int32 × Int32 × MS) ⊕ (Int32 × MS)) :=
  (some (x9 + 1)).bind fun v110 =>
  some (.inl (x0, x3, x4, z0, v110, S))
noncomputable def bX10_drawn_92 (S : MS) (x0 : Nat) (x3 : Int32) (x4 : Int32) (x8 : Int32) (x9 : Int32) (z0 : Int32) : Option ((Nat × Int32 × Int32 × Int32 × Int32 × MS) ⊕ (Int32 × MS)) :=
  if x8 ≤ z0 then
    bX10_drawn_108 S x0 x3 x4 x9 x8
  else
    bX10_drawn_108 S x0 x3 x4 x9 z0
noncomputable def bX10_drawn_131 (S : MS) (z0 : Int32) : Option ((Nat × Int32 × Int32 × Int32 × Int32 × MS) ⊕ (Int32 × MS)) :=
  some (.inr (z0, S))
noncomputable def bX10_drawn_59 (S : MS) (x0 : Nat) (x3 : Int32) (x4 : Int32) (x8 : Int32) (x9 : Int32) : Option ((Nat × Int32 × Int32 × Int32 × Int32 × MS) ⊕ (Int32 × MS)) :=
  if (12 : Int32) ≤ x9 then
    if x8 = (1000000 : Int32) then
      bX10_drawn_131 S (-3 : Int32)
    else
      bX10_drawn_131 S (-4 : Int32)
  else
    (o_is S x0 11).bind fun _ =>
    (fX10_isLet S x0 x3 x9).bind fun v70 =>
    if v70 = 0 then
      bX10_drawn_92 S x0 x3 x4 x8 x9 (1000000 : Int32)
    else
      (o_is S x0 11).bind fun _ =>
      (fX10_bendsAt S x0 x3 x9 (5 : Int32) x4).bind fun v83 =>
      bX10_drawn_92 S x0 x3 x4 x8 x9 v83
noncomputable def sX10_drawn : (Nat × Int32 × Int32 × Int32 × Int32 × MS) → Option ((Nat × Int32 × Int32 × Int32 × Int32 × MS) ⊕ (Int32 × MS)) := (fun t => bX10_drawn_59 t.2.2.2.2.2 t.1 t.2.1 t.2.2.1 t.2.2.2.1 t.2.2.2.2.1)
noncomputable def hX10_drawn_59 (S : MS) (x0 : Nat) (x3 : Int32) (x4 : Int32) (x8 : Int32) (x9 : Int32) : Option (Int32 × MS) := lim (sX10_drawn) (x0, x3, x4, x8, x9, S)
theorem qX10_drawn_59 (S : MS) (x0 : Nat) (x3 : Int32) (x4 : Int32) (x8 : Int32) (x9 : Int32) : hX10_drawn_59 S x0 x3 x4 x8 x9 = fin (sX10_drawn) (bX10_drawn_59 S x0 x3 x4 x8 x9) := lim_eq _ _
noncomputable def fX10_drawn (S : MS) (a0 : Nat) (a1 : Int32) (a2 : Int32) (a3 : Int32) (a4 : Int32) (a5 : Int32) (a6 : Int32) : Option (Int32 × MS) := fin (sX10_drawn) (bX10_drawn_0 S a0 a1 a2 a3 a4 a5 a6)
noncomputable def bX10_draw_77 (S : MS) (x0 : Nat) : Option (Int32 × MS) :=
  (o_is S x0 11).bind fun _ =>
  b2 (fX10_refused S x0 (-2 : Int32)) fun v80 S80 =>
  some (v80, S80)
noncomputable def bX10_draw_112 (S : MS) (x0 : Nat) (x1 : Int32) (x2 : Int32) (x3 : Int32) (x4 : Int32) (x5 : Int32) (x7 : Int32) (x8 : Int32) : Option (Int32 × MS) :=
  (o_gP S x0 11 53).bind fun v113 =>
  (o_ld S v113 12 x5).bind fun v118 =>
  if 0 ≤ v118 then
    if 0 ≤ x8 then
      (o_gP S x0 11 53).bind fun v149 =>
      (o_ld S v149 12 x5).bind fun v154 =>
      (fX10_isBeyond x7 ((3 : Int64) * (x8.toInt64)) v154).bind fun v155 =>
      if v155 = 0 then
        (o_is S x0 11).bind fun _ =>
        b2 (fX10_drawn S x0 x1 x2 x3 x4 (((60 : Int32) * x5) + x7) x8) fun v184 S184 =>
        (o_is S184 x0 11).bind fun _ =>
        b2 (fX10_refused S184 x0 v184) fun v187 S187 =>
        some (v187, S187)
      else
        (o_is S x0 11).bind fun _ =>
        b2 (fX10_failed S x0 (3 : Int32)) fun v163 S163 =>
        some (v163, S163)
    else
      (o_is S x0 11).bind fun _ =>
      b2 (fX10_failed S x0 (4 : Int32)) fun v135 S135 =>
      some (v135, S135)
  else
    (o_is S x0 11).bind fun _ =>
    b2 (fX10_failed S x0 (1 : Int32)) fun v124 S124 =>
    some (v124, S124)
noncomputable def bX10_draw_0 (S : MS) (x0 : Nat) (x1 : Int32) (x2 : Int32) (x3 : Int32) (x4 : Int32) (x5 : Int32) (x6 : Int32) (x7 : Int32) (x8 : Int32) : Option (Int32 × MS) :=
  (fX10_noSheet x5).bind fun v2 =>
  if v2 = 0 then
    (fX10_in (x6.toInt64) (0 : Int64) (2 : Int64)).bind fun v21 =>
    if v21 = 0 then
      bX10_draw_77 S x0
    else
      (fX10_in (x1.toInt64) (0 : Int64) (1 : Int64)).bind fun v31 =>
      if v31 = 0 then
        bX10_draw_77 S x0
      else
        (fX10_in (x2.toInt64) (0 : Int64) (2 : Int64)).bind fun v43 =>
        if v43 = 0 then
          bX10_draw_77 S x0
        else
          (fX10_in (x3.toInt64) (0 : Int64) (11 : Int64)).bind fun v55 =>
          if v55 = 0 then
            bX10_draw_77 S x0
          else
            (fX10_in (x4.toInt64) ((x3.toInt64) + (1 : Int64)) (11 : Int64)).bind fun v71 =>
            if v71 = 0 then
              bX10_draw_77 S x0
            else
              (o_gP S x0 11 53).bind fun v85 =>
              (o_ld S v85 12 x5).bind fun v90 =>
              if v90 < 0 then
                bX10_draw_112 S x0 x1 x2 x3 x4 x5 x7 x8
              else
                (o_gP S x0 11 54).bind fun v95 =>
                (o_ld S v95 12 x5).bind fun v100 =>
                if v100 = x6 then
                  bX10_draw_112 S x0 x1 x2 x3 x4 x5 x7 x8
                else
                  (o_is S x0 11).bind fun _ =>
                  b2 (fX10_failed S x0 (2 : Int32)) fun v108 S108 =>
                  some (v108, S108)
  else
    (o_is S x0 11).bind fun _ =>
    b2 (fX10_refused S x0 (-1 : Int32)) fun v10 S10 =>
    some (v10, S10)
noncomputable def fX10_draw (S : MS) (a0 : Nat) (a1 : Int32) (a2 : Int32) (a3 : Int32) (a4 : Int32) (a5 : Int32) (a6 : Int32) (a7 : Int32) (a8 : Int32) : Option (Int32 × MS) := bX10_draw_0 S a0 a1 a2 a3 a4 a5 a6 a7 a8
set_option maxHeartbeats 4000000 in
set_option maxRecDepth 100000 in
theorem wX10_areGates_0 {p : Program} {l : Launch} {e : Env} {s : State} {m : MethodId} {args : Array Value} {below : List Frame} {meth : Method} {c : Code} {D : va_G} {cy : Nat → ClassId} (ad : Nat → Nat) (A : Nat → Prop) {S : MS} {r : Int32} {out : ((Nat × Int32 × Int32 × Int32 × Int32) ⊕ Int32)} {ls : Array Slot} {x0 : Nat} {x1 : Int32} {x2 : Int32} (C0 : CX p s m args meth c RX10 cX10_areGates 6 D cy) (M : MW D cy ad A S s.heap) (hr : meth.sig.returnType = some .boolean) (hF : bX10_areGates_0 S x0 x1 x2 = some out) (hl : lv_has ls 6 [(0, .ref (ad x0)), (1, .int x1), (2, .int x2)]) (Kr : ∀ r9, out = .inr r9 → r9 = r) (Kh0 : ∀ (y0 : Nat) (y1 : Int32) (y2 : Int32) (y3 : Int32) (y4 : Int32), out = .inl (y0, y1, y2, y3, y4) → ∀ (ls1 : Array Slot), lv_has ls1 6 [(0, .ref (ad y0)), (1, .int y1), (2, .int y2), (3, .int y3), (4, .int y4)] → W p l e rmX10_areGates s m args below meth c s.heap [] 0 0 (MQ below (QcS (some (.int r))) args s 0 0 (fun _ => False)) (F0 m 5 ls1 [])) : W p l e rmX10_areGates s m args below meth c s.heap [] 0 0 (MQ below (QcS (some (.int r))) args s 0 0 (fun _ => False)) (F0 m 0 ls []) := by
  unfold bX10_areGates_0 at hF
  obtain ⟨hx, hb, -, hown, -, hts, -⟩ := id C0
  refine lv_iconst (v := (1 : Int32)) hx hb dX10_areGates_0 (by decide) ?_
  refine lv_istore_n (lv' := [(3, .int (1 : Int32)), (0, .ref (ad x0)), (1, .int x1), (2, .int x2)]) hx hb dX10_areGates_1 rfl hl (by decide) rfl (fun ls hl => ?_)
  refine lv_iconst (v := (0 : Int32)) hx hb dX10_areGates_2 (by decide) ?_
  refine lv_istore (lv' := [(4, .int (0 : Int32)), (3, .int (1 : Int32)), (0, .ref (ad x0)), (1, .int x1), (2, .int x2)]) hx hb dX10_areGates_3 hl (by decide) rfl (fun ls hl => ?_)
  exact Kh0 _ _ _ _ _ (Option.some.inj hF).symm _ (lv_sub hl [2, 3, 4, 1, 0] rfl)
set_option maxHeartbeats 4000000 in
set_option maxRecDepth 100000 in
theorem wX10_areGates_95 {p : Program} {l : Launch} {e : Env} {s : State} {m : MethodId} {args : Array Value} {below : List Frame} {meth : Method} {c : Code} {D : va_G} {cy : Nat → ClassId} (ad : Nat → Nat) (A : Nat → Prop) {S : MS} {r : Int32} {out : ((Nat × Int32 × Int32 × Int32 × Int32) ⊕ Int32)} {ls : Array Slot} {x0 : Nat} {x1 : Int32} {x2 : Int32} {x4 : Int32} {z0 : Int32} (C0 : CX p s m args meth c RX10 cX10_areGates 6 D cy) (M : MW D cy ad A S s.heap) (hr : meth.sig.returnType = some .boolean) (hF : bX10_areGates_95 S x0 x1 x2 x4 z0 = some out) (hl : lv_has ls 6 [(0, .ref (ad x0)), (1, .int x1), (2, .int x2), (4, .int x4)]) (Kr : ∀ r9, out = .inr r9 → r9 = r) (Kh0 : ∀ (y0 : Nat) (y1 : Int32) (y2 : Int32) (y3 : Int32) (y4 : Int32), out = .inl (y0, y1, y2, y3, y4) → ∀ (ls1 : Array Slot), lv_has ls1 6 [(0, .ref (ad y0)), (1, .int y1), (2, .int y2), (3, .int y3), (4, .int y4)] → W p l e rmX10_areGates s m args below meth c s.heap [] 0 0 (MQ below (QcS (some (.int r))) args s 0 0 (fun _ => False)) (F0 m 5 ls1 [])) : W p l e rmX10_areGates s m args below meth c s.heap [] 0 0 (MQ below (QcS (some (.int r))) args s 0 0 (fun _ => False)) (F0 m 95 ls [.int z0]) := by
  unfold bX10_areGates_95 at hF
  obtain ⟨hx, hb, -, hown, -, hts, -⟩ := id C0
  refine lv_istore_n (lv' := [(3, .int z0), (0, .ref (ad x0)), (1, .int x1), (2, .int x2), (4, .int x4)]) hx hb dX10_areGates_95 rfl hl (by decide) rfl (fun ls hl => ?_)
  obtain ⟨v96, hv, hF⟩ := ob hF
  refine lv_iinc (v := v96) (lv' := [(4, .int v96), (3, .int z0), (0, .ref (ad x0)), (1, .int x1), (2, .int x2)]) hx hb dX10_areGates_96 hl (k := 4) rfl (by rw [← vtI hv]; rfl) (by decide) rfl (fun ls hl => ?_)
  refine lv_goto (tgt := 5) hx hb dX10_areGates_99 (by decide) ?_
  exact Kh0 _ _ _ _ _ (Option.some.inj hF).symm _ (lv_sub hl [2, 3, 4, 1, 0] rfl)
set_option maxHeartbeats 4000000 in
set_option maxRecDepth 100000 in
theorem wX10_areGates_94 {p : Program} {l : Launch} {e : Env} {s : State} {m : MethodId} {args : Array Value} {below : List Frame} {meth : Method} {c : Code} {D : va_G} {cy : Nat → ClassId} (ad : Nat → Nat) (A : Nat → Prop) {S : MS} {r : Int32} {out : ((Nat × Int32 × Int32 × Int32 × Int32) ⊕ Int32)} {ls : Array Slot} {x0 : Nat} {x1 : Int32} {x2 : Int32} {x4 : Int32} (C0 : CX p s m args meth c RX10 cX10_areGates 6 D cy) (M : MW D cy ad A S s.heap) (hr : meth.sig.returnType = some .boolean) (hF : bX10_areGates_94 S x0 x1 x2 x4 = some out) (hl : lv_has ls 6 [(0, .ref (ad x0)), (1, .int x1), (2, .int x2), (4, .int x4)]) (Kr : ∀ r9, out = .inr r9 → r9 = r) (Kh0 : ∀ (y0 : Nat) (y1 : Int32) (y2 : Int32) (y3 : Int32) (y4 : Int32), out = .inl (y0, y1, y2, y3, y4) → ∀ (ls1 : Array Slot), lv_has ls1 6 [(0, .ref (ad y0)), (1, .int y1), (2, .int y2), (3, .int y3), (4, .int y4)] → W p l e rmX10_areGates s m args below meth c s.heap [] 0 0 (MQ below (QcS (some (.int r))) args s 0 0 (fun _ => False)) (F0 m 5 ls1 [])) : W p l e rmX10_areGates s m args below meth c s.heap [] 0 0 (MQ below (QcS (some (.int r))) args s 0 0 (fun _ => False)) (F0 m 94 ls []) := by
  unfold bX10_areGates_94 at hF
  obtain ⟨hx, hb, -, hown, -, hts, -⟩ := id C0
  refine lv_iconst (v := (0 : Int32)) hx hb dX10_areGates_94 (by decide) ?_
  exact wX10_areGates_95 ad A C0 M hr hF (lv_sub hl [0, 1, 2, 3] rfl) Kr Kh0
set_option maxHeartbeats 4000000 in
set_option maxRecDepth 100000 in
theorem wX10_areGates_5 {p : Program} {l : Launch} {e : Env} {s : State} {m : MethodId} {args : Array Value} {below : List Frame} {meth : Method} {c : Code} {D : va_G} {cy : Nat → ClassId} (ad : Nat → Nat) (A : Nat → Prop) {S : MS} {r : Int32} {out : ((Nat × Int32 × Int32 × Int32 × Int32) ⊕ Int32)} {ls : Array Slot} {x0 : Nat} {x1 : Int32} {x2 : Int32} {x3 : Int32} {x4 : Int32} (C0 : CX p s m args meth c RX10 cX10_areGates 6 D cy) (M : MW D cy ad A S s.heap) (hr : meth.sig.returnType = some .boolean) (hF : bX10_areGates_5 S x0 x1 x2 x3 x4 = some out) (hl : lv_has ls 6 [(0, .ref (ad x0)), (1, .int x1), (2, .int x2), (3, .int x3), (4, .int x4)]) (Kr : ∀ r9, out = .inr r9 → r9 = r) (Kh0 : ∀ (y0 : Nat) (y1 : Int32) (y2 : Int32) (y3 : Int32) (y4 : Int32), out = .inl (y0, y1, y2, y3, y4) → ∀ (ls1 : Array Slot), lv_has ls1 6 [(0, .ref (ad y0)), (1, .int y1), (2, .int y2), (3, .int y3), (4, .int y4)] → W p l e rmX10_areGates s m args below meth c s.heap [] 0 0 (MQ below (QcS (some (.int r))) args s 0 0 (fun _ => False)) (F0 m 5 ls1 [])) : W p l e rmX10_areGates s m args below meth c s.heap [] 0 0 (MQ below (QcS (some (.int r))) args s 0 0 (fun _ => False)) (F0 m 5 ls []) := by
  unfold bX10_areGates_5 at hF
  obtain ⟨hx, hb, -, hown, -, hts, -⟩ := id C0
  refine lv_iload hx hb dX10_areGates_5 (lv_at hl 4 rfl) ?_
  refine lv_iload_n hx hb dX10_areGates_7 rfl (lv_at hl 2 rfl) ?_
  refine lv_icmp_ge (tgt := 102) hx hb dX10_areGates_8 (by decide) (fun hc => ?_) (fun hc => ?_)
  · have hF := oi_t hc hF
    refine lv_iload_n hx hb dX10_areGates_102 rfl (lv_at hl 3 rfl) ?_
    obtain ⟨z103, hz, hF⟩ := ob hF
    have hz2 := (o_if hz).2
    refine vtopi hz2 ?_
    rw [hz2] at hz
    obtain rfl := (Kr _ (Option.some.inj hF).symm)
    exact rt_SZ C0 hr hz dX10_areGates_103
  · have hF := oi_f hc hF
    refine lv_iload_n hx hb dX10_areGates_11 rfl (lv_at hl 1 rfl) ?_
    refine lv_iconst (v := (3 : Int32)) hx hb dX10_areGates_12 (by decide) ?_
    refine lv_iload hx hb dX10_areGates_13 (lv_at hl 4 rfl) ?_
    refine lv_imul hx hb dX10_areGates_15 ?_
    refine lv_iadd hx hb dX10_areGates_16 ?_
    obtain ⟨v17, hv, hF⟩ := ob hF
    have hv := vtI hv
    refine vtopi hv ?_
    refine lv_istore (lv' := [(5, .int v17), (0, .ref (ad x0)), (1, .int x1), (2, .int x2), (3, .int x3), (4, .int x4)]) hx hb dX10_areGates_17 hl (by decide) rfl (fun ls hl => ?_)
    refine lv_iload_n hx hb dX10_areGates_19 rfl (lv_at hl 4 rfl) ?_
    refine lv_if_eq (tgt := 94) hx hb dX10_areGates_20 (by decide) (fun hc => ?_) (fun hc => ?_)
    · have hF := oi_t hc hF
      exact wX10_areGates_94 ad A C0 M hr hF (lv_sub hl [1, 2, 3, 5] rfl) Kr Kh0
    · have hF := oi_f hc hF
      refine lv_aload_n hx hb dX10_areGates_23 rfl (lv_at hl 1 rfl) ?_
      obtain ⟨v24, hv, hF⟩ := ob hF
      refine k_getP C0 M hv fl_X10_131 dX10_areGates_24 ?_
      refine lv_iload hx hb dX10_areGates_27 (lv_at hl 0 rfl) ?_
      obtain ⟨v29, hv, hF⟩ := ob hF
      refine k_ld C0 M hv dX10_areGates_29 ?_
      refine lv_i2l (v := (v29.toInt64)) hx hb dX10_areGates_30 rfl ?_
      refine lv_lconst (v := (0 : Int64)) hx hb dX10_areGates_31 (by decide) ?_
      refine lv_ldc2 (v := (11 : Int64)) hx hb hown (hts _ (uw_of 1257 (by decide +kernel) rfl)) dX10_areGates_32 ?_
      obtain ⟨v35, hcl, hF⟩ := ob hF
      refine go_SI (r_S (rest := []) (As := [.long (v29.toInt64), .long (0 : Int64), .long (11 : Int64)]) C0 cb_X10_156 (tX10_in l D cy ad hcl) (pre_S C0) hl dX10_areGates_35 rfl (Nat.le_of_ble_eq_true rfl) ⟨rfl, rfl⟩ ⟨Nat.le_of_ble_eq_true rfl, Nat.le_of_ble_eq_true rfl⟩ ⟨Nat.le_of_ble_eq_true rfl, Nat.le_of_ble_eq_true rfl⟩ rfl) ?_
      refine lv_if_eq (tgt := 94) hx hb dX10_areGates_38 (by decide) (fun hc => ?_) (fun hc => ?_)
      · have hF := oi_t hc hF
        exact wX10_areGates_94 ad A C0 M hr hF (lv_sub hl [1, 2, 3, 5] rfl) Kr Kh0
      · have hF := oi_f hc hF
        refine lv_aload_n hx hb dX10_areGates_41 rfl (lv_at hl 1 rfl) ?_
        obtain ⟨v42, hv, hF⟩ := ob hF
        refine k_getP C0 M hv fl_X10_131 dX10_areGates_42 ?_
        refine lv_iload hx hb dX10_areGates_45 (lv_at hl 0 rfl) ?_
        refine lv_iconst (v := (1 : Int32)) hx hb dX10_areGates_47 (by decide) ?_
        refine lv_iadd hx hb dX10_areGates_48 ?_
        obtain ⟨v49, hv, hF⟩ := ob hF
        refine k_ld C0 M hv dX10_areGates_49 ?_
        refine lv_i2l (v := (v49.toInt64)) hx hb dX10_areGates_50 rfl ?_
        refine lv_lconst (v := (0 : Int64)) hx hb dX10_areGates_51 (by decide) ?_
        refine lv_ldc2 (v := (11 : Int64)) hx hb hown (hts _ (uw_of 1257 (by decide +kernel) rfl)) dX10_areGates_52 ?_
        obtain ⟨v55, hcl, hF⟩ := ob hF
        refine go_SI (r_S (rest := []) (As := [.long (v49.toInt64), .long (0 : Int64), .long (11 : Int64)]) C0 cb_X10_156 (tX10_in l D cy ad hcl) (pre_S C0) hl dX10_areGates_55 rfl (Nat.le_of_ble_eq_true rfl) ⟨rfl, rfl⟩ ⟨Nat.le_of_ble_eq_true rfl, Nat.le_of_ble_eq_true rfl⟩ ⟨Nat.le_of_ble_eq_true rfl, Nat.le_of_ble_eq_true rfl⟩ rfl) ?_
        refine lv_if_eq (tgt := 94) hx hb dX10_areGates_58 (by decide) (fun hc => ?_) (fun hc => ?_)
        · have hF := oi_t hc hF
          exact wX10_areGates_94 ad A C0 M hr hF (lv_sub hl [1, 2, 3, 5] rfl) Kr Kh0
        · have hF := oi_f hc hF
          refine lv_aload_n hx hb dX10_areGates_61 rfl (lv_at hl 1 rfl) ?_
          obtain ⟨v62, hv, hF⟩ := ob hF
          refine k_getP C0 M hv fl_X10_131 dX10_areGates_62 ?_
          refine lv_iload hx hb dX10_areGates_65 (lv_at hl 0 rfl) ?_
          refine lv_iconst (v := (2 : Int32)) hx hb dX10_areGates_67 (by decide) ?_
          refine lv_iadd hx hb dX10_areGates_68 ?_
          obtain ⟨v69, hv, hF⟩ := ob hF
          refine k_ld C0 M hv dX10_areGates_69 ?_
          refine lv_i2l (v := (v69.toInt64)) hx hb dX10_areGates_70 rfl ?_
          refine lv_aload_n hx hb dX10_areGates_71 rfl (lv_at hl 1 rfl) ?_
          obtain ⟨v72, hv, hF⟩ := ob hF
          refine k_getP C0 M hv fl_X10_131 dX10_areGates_72 ?_
          refine lv_iload hx hb dX10_areGates_75 (lv_at hl 0 rfl) ?_
          refine lv_iconst (v := (1 : Int32)) hx hb dX10_areGates_77 (by decide) ?_
          refine lv_iadd hx hb dX10_areGates_78 ?_
          obtain ⟨v79, hv, hF⟩ := ob hF
          refine k_ld C0 M hv dX10_areGates_79 ?_
          refine lv_i2l (v := (v79.toInt64)) hx hb dX10_areGates_80 rfl ?_
          refine lv_ldc2 (v := (11 : Int64)) hx hb hown (hts _ (uw_of 1257 (by decide +kernel) rfl)) dX10_areGates_81 ?_
          obtain ⟨v84, hcl, hF⟩ := ob hF
          refine go_SI (r_S (rest := []) (As := [.long (v69.toInt64), .long (v79.toInt64), .long (11 : Int64)]) C0 cb_X10_156 (tX10_in l D cy ad hcl) (pre_S C0) hl dX10_areGates_84 rfl (Nat.le_of_ble_eq_true rfl) ⟨rfl, rfl⟩ ⟨Nat.le_of_ble_eq_true rfl, Nat.le_of_ble_eq_true rfl⟩ ⟨Nat.le_of_ble_eq_true rfl, Nat.le_of_ble_eq_true rfl⟩ rfl) ?_
          refine lv_if_eq (tgt := 94) hx hb dX10_areGates_87 (by decide) (fun hc => ?_) (fun hc => ?_)
          · have hF := oi_t hc hF
            exact wX10_areGates_94 ad A C0 M hr hF (lv_sub hl [1, 2, 3, 5] rfl) Kr Kh0
          · have hF := oi_f hc hF
            refine lv_iconst (v := (1 : Int32)) hx hb dX10_areGates_90 (by decide) ?_
            refine lv_goto (tgt := 95) hx hb dX10_areGates_91 (by decide) ?_
            exact wX10_areGates_95 ad A C0 M hr hF (lv_sub hl [1, 2, 3, 5] rfl) Kr Kh0
set_option maxHeartbeats 4000000 in
set_option maxRecDepth 100000 in
theorem tX10_areGates (l : Launch) (D : va_G) (cy : Nat → ClassId) (ad : Nat → Nat) (A : Nat → Prop) {S : MS} {a0 : Nat} {a1 : Int32} {a2 : Int32} {r : Int32} (h : fX10_areGates S a0 a1 a2 = some r) : Met l yX10_areGates [Cond.code yX10_areGates cX10_areGates 6 (some .boolean)] rmX10_areGates (PcR D cy ad A S [.ref (ad a0), .int a1, .int a2]) (QcS (some (.int r))) 0 0 (fun _ => False) := by
  refine met_R (by decide +kernel) cw_X10_areGates (Nat.le_of_ble_eq_true rfl) ?_
  intro p e s m args below meth c ls C0 M hr hl
  have hl : lv_has ls 6 [(0, .ref (ad a0)), (1, .int a1), (2, .int a2)] := hl
  have key := lim_walk (step := sX10_areGates S) (fun (q : (Nat × Int32 × Int32 × Int32 × Int32)) (r9 : Int32) => ∀ (r : Int32), r9 = r → ((∀ (y0 : Nat) (y1 : Int32) (y2 : Int32) (y3 : Int32) (y4 : Int32), q = (y0, y1, y2, y3, y4) → ∀ (ls1 : Array Slot), lv_has ls1 6 [(0, .ref (ad y0)), (1, .int y1), (2, .int y2), (3, .int y3), (4, .int y4)] → W p l e rmX10_areGates s m args below meth c s.heap [] 0 0 (MQ below (QcS (some (.int r))) args s 0 0 (fun _ => False)) (F0 m 5 ls1 [])))) ?_
  · unfold fX10_areGates at h
    cases hs0 : bX10_areGates_0 S a0 a1 a2 with
    | none => rw [hs0] at h; cases h
    | some out =>
      rw [hs0] at h
      refine wX10_areGates_0 ad A C0 M hr hs0 hl (fun r9 hr9 => ?_) ?_
      · subst hr9; exact Option.some.inj h
      · intro y0 y1 y2 y3 y4 hq; subst hq; exact (key _ _ h _ rfl) _ _ _ _ _ rfl
  · intro q r9 out hst hre hin9
    intro r er; subst er
    refine ?_
    · intro y0 y1 y2 y3 y4 hq ls1 hl
      subst hq
      exact wX10_areGates_5 ad A C0 M hr hst hl hre (fun k0 k1 k2 k3 k4 hk => (hin9 _ hk _ rfl) _ _ _ _ _ rfl)
set_option maxHeartbeats 4000000 in
set_option maxRecDepth 100000 in
theorem wX10_failed_0 {p : Program} {l : Launch} {e : Env} {s : State} {m : MethodId} {args : Array Value} {below : List Frame} {meth : Method} {c : Code} {D : va_G} {cy : Nat → ClassId} (ad : Nat → Nat) (A : Nat → Prop) {S : MS} {S' : MS} {H : Heap} {locs : List Loc} {n0 : Nat} {r : Int32} {ls : Array Slot} {x0 : Nat} {x1 : Int32} (C0 : CX p s m args meth c RX10 cX10_failed 2 D cy) (M : ST D cy ad A s.heap (ZN n0 s.heap.size) S H locs) (hr : meth.sig.returnType = some .int) (hF : bX10_failed_0 S x0 x1 = some (r, S')) (hl : lv_has ls 2 [(0, .ref (ad x0)), (1, .int x1)]) : W p l e rmX10_failed s m args below meth c H locs 0 0 (MQ below (QcM D cy ad A n0 S' (some (.int r))) args s 0 0 A) (F0 m 0 ls []) := by
  unfold bX10_failed_0 at hF
  obtain ⟨hx, hb, -, hown, -, hts, -⟩ := id C0
  refine lv_aload_n hx hb dX10_failed_0 rfl (lv_at hl 0 rfl) ?_
  refine lv_iload_n hx hb dX10_failed_1 rfl (lv_at hl 1 rfl) ?_
  obtain ⟨S2, hv, hF⟩ := ob hF
  refine k_sI C0 M hv fl_X10_146 dX10_failed_2 (fun H locs M => ?_)
  refine lv_bipush (v := (-10 : Int32)) hx hb dX10_failed_5 (by decide) ?_
  refine lv_iload_n hx hb dX10_failed_7 rfl (lv_at hl 1 rfl) ?_
  refine lv_isub hx hb dX10_failed_8 ?_
  obtain ⟨rfl, rfl⟩ := Prod.mk.inj (Option.some.inj hF)
  exact rt_MI C0 M hr dX10_failed_9
set_option maxHeartbeats 4000000 in
set_option maxRecDepth 100000 in
theorem tX10_failed (l : Launch) (D : va_G) (cy : Nat → ClassId) (ad : Nat → Nat) (A : Nat → Prop) {S S' : MS} {a0 : Nat} {a1 : Int32} {r : Int32} (h : fX10_failed S a0 a1 = some (r, S')) : Met l yX10_failed [Cond.code yX10_failed cX10_failed 2 (some .int)] rmX10_failed (PcR D cy ad A S [.ref (ad a0), .int a1]) (QcM D cy ad A (m_n S) S' (some (.int r))) 0 0 A := by
  refine met_M (by decide +kernel) cw_X10_failed (Nat.le_of_ble_eq_true rfl) ?_
  intro p e s m args below meth c ls C0 M hr hin hl
  have hl : lv_has ls 2 [(0, .ref (ad a0)), (1, .int a1)] := hl
  exact wX10_failed_0 ad A C0 M hr h hl
set_option maxHeartbeats 4000000 in
set_option maxRecDepth 100000 in
theorem wX10_refused_0 {p : Program} {l : Launch} {e : Env} {s : State} {m : MethodId} {args : Array Value} {below : List Frame} {meth : Method} {c : Code} {D : va_G} {cy : Nat → ClassId} (ad : Nat → Nat) (A : Nat → Prop) {S : MS} {S' : MS} {H : Heap} {locs : List Loc} {n0 : Nat} {r : Int32} {ls : Array Slot} {x0 : Nat} {x1 : Int32} (C0 : CX p s m args meth c RX10 cX10_refused 2 D cy) (M : ST D cy ad A s.heap (ZN n0 s.heap.size) S H locs) (hr : meth.sig.returnType = some .int) (hF : bX10_refused_0 S x0 x1 = some (r, S')) (hl : lv_has ls 2 [(0, .ref (ad x0)), (1, .int x1)]) : W p l e rmX10_refused s m args below meth c H locs 0 0 (MQ below (QcM D cy ad A n0 S' (some (.int r))) args s 0 0 A) (F0 m 0 ls []) := by
  unfold bX10_refused_0 at hF
  obtain ⟨hx, hb, -, hown, -, hts, -⟩ := id C0
  refine lv_aload_n hx hb dX10_refused_0 rfl (lv_at hl 0 rfl) ?_
  refine lv_iconst (v := (0 : Int32)) hx hb dX10_refused_1 (by decide) ?_
  obtain ⟨S2, hv, hF⟩ := ob hF
  refine k_sI C0 M hv fl_X10_146 dX10_refused_2 (fun H locs M => ?_)
  refine lv_iload_n hx hb dX10_refused_5 rfl (lv_at hl 1 rfl) ?_
  obtain ⟨rfl, rfl⟩ := Prod.mk.inj (Option.some.inj hF)
  exact rt_MI C0 M hr dX10_refused_6
set_option maxHeartbeats 4000000 in
set_option maxRecDepth 100000 in
theorem tX10_refused (l : Launch) (D : va_G) (cy : Nat → ClassId) (ad : Nat → Nat) (A : Nat → Prop) {S S' : MS} {a0 : Nat} {a1 : Int32} {r : Int32} (h : fX10_refused S a0 a1 = some (r, S')) : Met l yX10_refused [Cond.code yX10_refused cX10_refused 2 (some .int)] rmX10_refused (PcR D cy ad A S [.ref (ad a0), .int a1]) (QcM D cy ad A (m_n S) S' (some (.int r))) 0 0 A := by
  refine met_M (by decide +kernel) cw_X10_refused (Nat.le_of_ble_eq_true rfl) ?_
  intro p e s m args below meth c ls C0 M hr hin hl
  have hl : lv_has ls 2 [(0, .ref (ad a0)), (1, .int a1)] := hl
  exact wX10_refused_0 ad A C0 M hr h hl
set_option maxHeartbeats 4000000 in
set_option maxRecDepth 100000 in
theorem wX10_as_56 {p : Program} {l : Launch} {e : Env} {s : State} {m : MethodId} {args : Array Value} {below : List Frame} {meth : Method} {c : Code} {D : va_G} {cy : Nat → ClassId} (ad : Nat → Nat) (A : Nat → Prop) {S : MS} {S' : MS} {H : Heap} {locs : List Loc} {n0 : Nat} {r : Int32} {ls : Array Slot} {z0 : Int32} (C0 : CX p s m args meth c RX10 cX10_as 3 D cy) (M : ST D cy ad A s.heap (ZN n0 s.heap.size) S H locs) (hr : meth.sig.returnType = some .int) (hF : bX10_as_56 S z0 = some (r, S')) (hl : lv_has ls 3 []) : W p l e rmX10_as s m args below meth c H locs 0 0 (MQ below (QcM D cy ad A n0 S' (some (.int r))) args s 0 0 A) (F0 m 56 ls [.int z0]) := by
  unfold bX10_as_56 at hF
  obtain ⟨hx, hb, -, hown, -, hts, -⟩ := id C0
  obtain ⟨rfl, rfl⟩ := Prod.mk.inj (Option.some.inj hF)
  exact rt_MI C0 M hr dX10_as_56
set_option maxHeartbeats 4000000 in
set_option maxRecDepth 100000 in
theorem wX10_as_0 {p : Program} {l : Launch} {e : Env} {s : State} {m : MethodId} {args : Array Value} {below : List Frame} {meth : Method} {c : Code} {D : va_G} {cy : Nat → ClassId} (ad : Nat → Nat) (A : Nat → Prop) {S : MS} {S' : MS} {H : Heap} {locs : List Loc} {n0 : Nat} {r : Int32} {ls : Array Slot} {x0 : Nat} {x1 : Int32} {x2 : Int32} (C0 : CX p s m args meth c RX10 cX10_as 3 D cy) (M : ST D cy ad A s.heap (ZN n0 s.heap.size) S H locs) (hr : meth.sig.returnType = some .int) (hF : bX10_as_0 S x0 x1 x2 = some (r, S')) (hl : lv_has ls 3 [(0, .ref (ad x0)), (1, .int x1), (2, .int x2)]) : W p l e rmX10_as s m args below meth c H locs 0 0 (MQ below (QcM D cy ad A n0 S' (some (.int r))) args s 0 0 A) (F0 m 0 ls []) := by
  unfold bX10_as_0 at hF
  obtain ⟨hx, hb, -, hown, -, hts, -⟩ := id C0
  refine lv_aload_n hx hb dX10_as_0 rfl (lv_at hl 0 rfl) ?_
  refine lv_iload_n hx hb dX10_as_1 rfl (lv_at hl 1 rfl) ?_
  obtain ⟨_, hrec, hF⟩ := ob hF
  obtain ⟨v2, hcl, hF⟩ := ob hF
  refine go_SI (r_V (rest := []) (As := [.int x1]) C0 cb_X10_186 M.1 hrec (tX10_noPost l D cy ad A hcl) (pre_R C0 M.1) hl dX10_as_2 rfl (Nat.le_of_ble_eq_true rfl) ⟨rfl, rfl⟩ ⟨Nat.le_of_ble_eq_true rfl, Nat.le_of_ble_eq_true rfl⟩ ⟨Nat.le_of_ble_eq_true rfl, Nat.le_of_ble_eq_true rfl⟩ rfl) ?_
  refine lv_if_eq (tgt := 14) hx hb dX10_as_5 (by decide) (fun hc => ?_) (fun hc => ?_)
  · have hF := oi_t hc hF
    refine lv_iload_n hx hb dX10_as_14 rfl (lv_at hl 2 rfl) ?_
    refine lv_i2l (v := (x2.toInt64)) hx hb dX10_as_15 rfl ?_
    refine lv_lconst (v := (0 : Int64)) hx hb dX10_as_16 (by decide) ?_
    refine lv_ldc2 (v := (2 : Int64)) hx hb hown (hts _ (uw_of 1250 (by decide +kernel) rfl)) dX10_as_17 ?_
    obtain ⟨v20, hcl, hF⟩ := ob hF
    refine go_SI (r_S (rest := []) (As := [.long (x2.toInt64), .long (0 : Int64), .long (2 : Int64)]) C0 cb_X10_156 (tX10_in l D cy ad hcl) (pre_S C0) hl dX10_as_20 rfl (Nat.le_of_ble_eq_true rfl) ⟨rfl, rfl⟩ ⟨Nat.le_of_ble_eq_true rfl, Nat.le_of_ble_eq_true rfl⟩ ⟨Nat.le_of_ble_eq_true rfl, Nat.le_of_ble_eq_true rfl⟩ rfl) ?_
    refine lv_if_ne (tgt := 33) hx hb dX10_as_23 (by decide) (fun hc => ?_) (fun hc => ?_)
    · have hF := oi_f hc hF
      refine lv_aload_n hx hb dX10_as_33 rfl (lv_at hl 0 rfl) ?_
      obtain ⟨v34, hv, hF⟩ := ob hF
      refine k_getP C0 M.1 hv fl_X10_7 dX10_as_34 ?_
      refine lv_iload_n hx hb dX10_as_37 rfl (lv_at hl 1 rfl) ?_
      obtain ⟨v38, hv, hF⟩ := ob hF
      refine k_ld C0 M.1 hv dX10_as_38 ?_
      refine lv_iload_n hx hb dX10_as_39 rfl (lv_at hl 2 rfl) ?_
      refine lv_icmp_lt (tgt := 51) hx hb dX10_as_40 (by decide) (fun hc => ?_) (fun hc => ?_)
      · have hF := oi_t hc hF
        refine lv_aload_n hx hb dX10_as_51 rfl (lv_at hl 0 rfl) ?_
        refine lv_iconst (v := (2 : Int32)) hx hb dX10_as_52 (by decide) ?_
        obtain ⟨_, hrec, hF⟩ := ob hF
        obtain ⟨v53, S53, hcl, hF⟩ := ob2 hF
        refine go_MI (r_V (rest := []) (As := [.int (2 : Int32)]) C0 cb_X10_218 M.1 hrec (tX10_failed l D cy ad A hcl) (pre_R C0 M.1) hl dX10_as_53 rfl (Nat.le_of_ble_eq_true rfl) ⟨rfl, rfl⟩ ⟨Nat.le_of_ble_eq_true rfl, Nat.le_of_ble_eq_true rfl⟩ ⟨Nat.le_of_ble_eq_true rfl, Nat.le_of_ble_eq_true rfl⟩ rfl) M (fun H locs M => ?_)
        exact wX10_as_56 ad A C0 M hr hF (lv_sub hl [] rfl)
      · have hF := oi_f hc hF
        refine lv_aload_n hx hb dX10_as_43 rfl (lv_at hl 0 rfl) ?_
        refine lv_iconst (v := (1 : Int32)) hx hb dX10_as_44 (by decide) ?_
        obtain ⟨_, hrec, hF⟩ := ob hF
        obtain ⟨v45, S45, hcl, hF⟩ := ob2 hF
        refine go_MI (r_V (rest := []) (As := [.int (1 : Int32)]) C0 cb_X10_215 M.1 hrec (tX10_refused l D cy ad A hcl) (pre_R C0 M.1) hl dX10_as_45 rfl (Nat.le_of_ble_eq_true rfl) ⟨rfl, rfl⟩ ⟨Nat.le_of_ble_eq_true rfl, Nat.le_of_ble_eq_true rfl⟩ ⟨Nat.le_of_ble_eq_true rfl, Nat.le_of_ble_eq_true rfl⟩ rfl) M (fun H locs M => ?_)
        refine lv_goto (tgt := 56) hx hb dX10_as_48 (by decide) ?_
        exact wX10_as_56 ad A C0 M hr hF (lv_sub hl [] rfl)
    · have hF := oi_t hc hF
      refine lv_aload_n hx hb dX10_as_26 rfl (lv_at hl 0 rfl) ?_
      refine lv_bipush (v := (-2 : Int32)) hx hb dX10_as_27 (by decide) ?_
      obtain ⟨_, hrec, hF⟩ := ob hF
      obtain ⟨v29, S29, hcl, hF⟩ := ob2 hF
      refine go_MI (r_V (rest := []) (As := [.int (-2 : Int32)]) C0 cb_X10_215 M.1 hrec (tX10_refused l D cy ad A hcl) (pre_R C0 M.1) hl dX10_as_29 rfl (Nat.le_of_ble_eq_true rfl) ⟨rfl, rfl⟩ ⟨Nat.le_of_ble_eq_true rfl, Nat.le_of_ble_eq_true rfl⟩ ⟨Nat.le_of_ble_eq_true rfl, Nat.le_of_ble_eq_true rfl⟩ rfl) M (fun H locs M => ?_)
      obtain ⟨rfl, rfl⟩ := Prod.mk.inj (Option.some.inj hF)
      exact rt_MI C0 M hr dX10_as_32
  · have hF := oi_f hc hF
    refine lv_aload_n hx hb dX10_as_8 rfl (lv_at hl 0 rfl) ?_
    refine lv_iconst (v := (-1 : Int32)) hx hb dX10_as_9 (by decide) ?_
    obtain ⟨_, hrec, hF⟩ := ob hF
    obtain ⟨v10, S10, hcl, hF⟩ := ob2 hF
    refine go_MI (r_V (rest := []) (As := [.int (-1 : Int32)]) C0 cb_X10_215 M.1 hrec (tX10_refused l D cy ad A hcl) (pre_R C0 M.1) hl dX10_as_10 rfl (Nat.le_of_ble_eq_true rfl) ⟨rfl, rfl⟩ ⟨Nat.le_of_ble_eq_true rfl, Nat.le_of_ble_eq_true rfl⟩ ⟨Nat.le_of_ble_eq_true rfl, Nat.le_of_ble_eq_true rfl⟩ rfl) M (fun H locs M => ?_)
    obtain ⟨rfl, rfl⟩ := Prod.mk.inj (Option.some.inj hF)
    exact rt_MI C0 M hr dX10_as_13
set_option maxHeartbeats 4000000 in
set_option maxRecDepth 100000 in
theorem tX10_as (l : Launch) (D : va_G) (cy : Nat → ClassId) (ad : Nat → Nat) (A : Nat → Prop) {S S' : MS} {a0 : Nat} {a1 : Int32} {a2 : Int32} {r : Int32} (h : fX10_as S a0 a1 a2 = some (r, S')) : Met l yX10_as [Cond.code yX10_as cX10_as 3 (some .int)] rmX10_as (PcR D cy ad A S [.ref (ad a0), .int a1, .int a2]) (QcM D cy ad A (m_n S) S' (some (.int r))) 0 0 A := by
  refine met_M (by decide +kernel) cw_X10_as (Nat.le_of_ble_eq_true rfl) ?_
  intro p e s m args below meth c ls C0 M hr hin hl
  have hl : lv_has ls 3 [(0, .ref (ad a0)), (1, .int a1), (2, .int a2)] := hl
  exact wX10_as_0 ad A C0 M hr h hl
set_option maxHeartbeats 4000000 in
set_option maxRecDepth 100000 in
theorem wX10_isLet_37 {p : Program} {l : Launch} {e : Env} {s : State} {m : MethodId} {args : Array Value} {below : List Frame} {meth : Method} {c : Code} {D : va_G} {cy : Nat → ClassId} (ad : Nat → Nat) (A : Nat → Prop) {S : MS} {r : Int32} {ls : Array Slot} {z0 : Int32} (C0 : CX p s m args meth c RX10 cX10_isLet 3 D cy) (M : MW D cy ad A S s.heap) (hr : meth.sig.returnType = some .boolean) (hF : bX10_isLet_37 S z0 = some r) (hl : lv_has ls 3 []) : W p l e rmX10_isLet s m args below meth c s.heap [] 0 0 (MQ below (QcS (some (.int r))) args s 0 0 (fun _ => False)) (F0 m 37 ls [.int z0]) := by
  unfold bX10_isLet_37 at hF
  obtain ⟨hx, hb, -, hown, -, hts, -⟩ := id C0
  obtain ⟨z37, hz, hF⟩ := ob hF
  have hz2 := (o_if hz).2
  refine vtopi hz2 ?_
  rw [hz2] at hz
  obtain rfl := (Option.some.inj hF)
  exact rt_SZ C0 hr hz dX10_isLet_37
set_option maxHeartbeats 4000000 in
set_option maxRecDepth 100000 in
theorem wX10_isLet_36 {p : Program} {l : Launch} {e : Env} {s : State} {m : MethodId} {args : Array Value} {below : List Frame} {meth : Method} {c : Code} {D : va_G} {cy : Nat → ClassId} (ad : Nat → Nat) (A : Nat → Prop) {S : MS} {r : Int32} {ls : Array Slot} (C0 : CX p s m args meth c RX10 cX10_isLet 3 D cy) (M : MW D cy ad A S s.heap) (hr : meth.sig.returnType = some .boolean) (hF : bX10_isLet_36 S = some r) (hl : lv_has ls 3 []) : W p l e rmX10_isLet s m args below meth c s.heap [] 0 0 (MQ below (QcS (some (.int r))) args s 0 0 (fun _ => False)) (F0 m 36 ls []) := by
  unfold bX10_isLet_36 at hF
  obtain ⟨hx, hb, -, hown, -, hts, -⟩ := id C0
  refine lv_iconst (v := (0 : Int32)) hx hb dX10_isLet_36 (by decide) ?_
  exact wX10_isLet_37 ad A C0 M hr hF (lv_sub hl [] rfl)
set_option maxHeartbeats 4000000 in
set_option maxRecDepth 100000 in
theorem wX10_isLet_0 {p : Program} {l : Launch} {e : Env} {s : State} {m : MethodId} {args : Array Value} {below : List Frame} {meth : Method} {c : Code} {D : va_G} {cy : Nat → ClassId} (ad : Nat → Nat) (A : Nat → Prop) {S : MS} {r : Int32} {ls : Array Slot} {x0 : Nat} {x1 : Int32} {x2 : Int32} (C0 : CX p s m args meth c RX10 cX10_isLet 3 D cy) (M : MW D cy ad A S s.heap) (hr : meth.sig.returnType = some .boolean) (hF : bX10_isLet_0 S x0 x1 x2 = some r) (hl : lv_has ls 3 [(0, .ref (ad x0)), (1, .int x1), (2, .int x2)]) : W p l e rmX10_isLet s m args below meth c s.heap [] 0 0 (MQ below (QcS (some (.int r))) args s 0 0 (fun _ => False)) (F0 m 0 ls []) := by
  unfold bX10_isLet_0 at hF
  obtain ⟨hx, hb, -, hown, -, hts, -⟩ := id C0
  refine lv_iload_n hx hb dX10_isLet_0 rfl (lv_at hl 2 rfl) ?_
  refine lv_i2l (v := (x2.toInt64)) hx hb dX10_isLet_1 rfl ?_
  refine lv_lconst (v := (0 : Int64)) hx hb dX10_isLet_2 (by decide) ?_
  refine lv_ldc2 (v := (11 : Int64)) hx hb hown (hts _ (uw_of 1257 (by decide +kernel) rfl)) dX10_isLet_3 ?_
  obtain ⟨v6, hcl, hF⟩ := ob hF
  refine go_SI (r_S (rest := []) (As := [.long (x2.toInt64), .long (0 : Int64), .long (11 : Int64)]) C0 cb_X10_156 (tX10_in l D cy ad hcl) (pre_S C0) hl dX10_isLet_6 rfl (Nat.le_of_ble_eq_true rfl) ⟨rfl, rfl⟩ ⟨Nat.le_of_ble_eq_true rfl, Nat.le_of_ble_eq_true rfl⟩ ⟨Nat.le_of_ble_eq_true rfl, Nat.le_of_ble_eq_true rfl⟩ rfl) ?_
  refine lv_if_eq (tgt := 36) hx hb dX10_isLet_9 (by decide) (fun hc => ?_) (fun hc => ?_)
  · have hF := oi_t hc hF
    exact wX10_isLet_36 ad A C0 M hr hF (lv_sub hl [] rfl)
  · have hF := oi_f hc hF
    refine lv_iload_n hx hb dX10_isLet_12 rfl (lv_at hl 2 rfl) ?_
    refine lv_aload_n hx hb dX10_isLet_13 rfl (lv_at hl 0 rfl) ?_
    obtain ⟨v14, hv, hF⟩ := ob hF
    refine k_getP C0 M hv fl_X10_86 dX10_isLet_14 ?_
    refine lv_iload_n hx hb dX10_isLet_17 rfl (lv_at hl 1 rfl) ?_
    obtain ⟨v18, hv, hF⟩ := ob hF
    refine k_ld C0 M hv dX10_isLet_18 ?_
    refine lv_icmp_lt (tgt := 36) hx hb dX10_isLet_19 (by decide) (fun hc => ?_) (fun hc => ?_)
    · have hF := oi_t hc hF
      exact wX10_isLet_36 ad A C0 M hr hF (lv_sub hl [] rfl)
    · have hF := oi_f hc hF
      refine lv_iload_n hx hb dX10_isLet_22 rfl (lv_at hl 2 rfl) ?_
      refine lv_aload_n hx hb dX10_isLet_23 rfl (lv_at hl 0 rfl) ?_
      obtain ⟨v24, hv, hF⟩ := ob hF
      refine k_getP C0 M hv fl_X10_89 dX10_isLet_24 ?_
      refine lv_iload_n hx hb dX10_isLet_27 rfl (lv_at hl 1 rfl) ?_
      obtain ⟨v28, hv, hF⟩ := ob hF
      refine k_ld C0 M hv dX10_isLet_28 ?_
      refine lv_icmp_gt (tgt := 36) hx hb dX10_isLet_29 (by decide) (fun hc => ?_) (fun hc => ?_)
      · have hF := oi_t hc hF
        exact wX10_isLet_36 ad A C0 M hr hF (lv_sub hl [] rfl)
      · have hF := oi_f hc hF
        refine lv_iconst (v := (1 : Int32)) hx hb dX10_isLet_32 (by decide) ?_
        refine lv_goto (tgt := 37) hx hb dX10_isLet_33 (by decide) ?_
        exact wX10_isLet_37 ad A C0 M hr hF (lv_sub hl [] rfl)
set_option maxHeartbeats 4000000 in
set_option maxRecDepth 100000 in
theorem tX10_isLet (l : Launch) (D : va_G) (cy : Nat → ClassId) (ad : Nat → Nat) (A : Nat → Prop) {S : MS} {a0 : Nat} {a1 : Int32} {a2 : Int32} {r : Int32} (h : fX10_isLet S a0 a1 a2 = some r) : Met l yX10_isLet [Cond.code yX10_isLet cX10_isLet 3 (some .boolean)] rmX10_isLet (PcR D cy ad A S [.ref (ad a0), .int a1, .int a2]) (QcS (some (.int r))) 0 0 (fun _ => False) := by
  refine met_R (by decide +kernel) cw_X10_isLet (Nat.le_of_ble_eq_true rfl) ?_
  intro p e s m args below meth c ls C0 M hr hl
  have hl : lv_has ls 3 [(0, .ref (ad a0)), (1, .int a1), (2, .int a2)] := hl
  exact wX10_isLet_0 ad A C0 M hr h hl
set_option maxHeartbeats 4000000 in
set_option maxRecDepth 100000 in
theorem wX10_bendsAt_0 {p : Program} {l : Launch} {e : Env} {s : State} {m : MethodId} {args : Array Value} {below : List Frame} {meth : Method} {c : Code} {D : va_G} {cy : Nat → ClassId} (ad : Nat → Nat) (A : Nat → Prop) {S : MS} {r : Int32} {out : ((Nat × Int32 × Int32 × Int32 × Int32 × Int32) ⊕ Int32)} {ls : Array Slot} {x0 : Nat} {x1 : Int32} {x2 : Int32} {x3 : Int32} {x4 : Int32} (C0 : CX p s m args meth c RX10 cX10_bendsAt 8 D cy) (M : MW D cy ad A S s.heap) (hr : meth.sig.returnType = some .int) (hF : bX10_bendsAt_0 S x0 x1 x2 x3 x4 = some out) (hl : lv_has ls 8 [(0, .ref (ad x0)), (1, .int x1), (2, .int x2), (3, .int x3), (4, .int x4)]) (Kr : ∀ r9, out = .inr r9 → r9 = r) (Kh0 : ∀ (y0 : Nat) (y1 : Int32) (y2 : Int32) (y3 : Int32) (y4 : Int32) (y5 : Int32), out = .inl (y0, y1, y2, y3, y4, y5) → ∀ (ls1 : Array Slot), lv_has ls1 8 [(0, .ref (ad y0)), (1, .int y1), (2, .int y2), (3, .int y3), (5, .int y4), (6, .int y5)] → W p l e rmX10_bendsAt s m args below meth c s.heap [] 0 0 (MQ below (QcS (some (.int r))) args s 0 0 (fun _ => False)) (F0 m 17 ls1 [])) : W p l e rmX10_bendsAt s m args below meth c s.heap [] 0 0 (MQ below (QcS (some (.int r))) args s 0 0 (fun _ => False)) (F0 m 0 ls []) := by
  unfold bX10_bendsAt_0 at hF
  obtain ⟨hx, hb, -, hown, -, hts, -⟩ := id C0
  refine lv_iload_n hx hb dX10_bendsAt_0 rfl (lv_at hl 1 rfl) ?_
  refine lv_iload hx hb dX10_bendsAt_1 (lv_at hl 4 rfl) ?_
  refine lv_icmp_ne (tgt := 8) hx hb dX10_bendsAt_3 (by decide) (fun hc => ?_) (fun hc => ?_)
  · have hF := oi_f hc hF
    refine lv_ldcw (v := (1000000 : Int32)) hx hb hown (hts _ (uw_of 1483 (by decide +kernel) rfl)) dX10_bendsAt_8 ?_
    refine lv_istore (lv' := [(5, .int (1000000 : Int32)), (0, .ref (ad x0)), (1, .int x1), (2, .int x2), (3, .int x3), (4, .int x4)]) hx hb dX10_bendsAt_11 hl (by decide) rfl (fun ls hl => ?_)
    refine lv_bipush (v := (-2 : Int32)) hx hb dX10_bendsAt_13 (by decide) ?_
    refine lv_istore (lv' := [(6, .int (-2 : Int32)), (5, .int (1000000 : Int32)), (0, .ref (ad x0)), (1, .int x1), (2, .int x2), (3, .int x3), (4, .int x4)]) hx hb dX10_bendsAt_15 hl (by decide) rfl (fun ls hl => ?_)
    exact Kh0 _ _ _ _ _ _ (Option.some.inj hF).symm _ (lv_sub hl [2, 3, 4, 5, 1, 0] rfl)
  · have hF := oi_t hc hF
    refine lv_iconst (v := (0 : Int32)) hx hb dX10_bendsAt_6 (by decide) ?_
    obtain rfl := (Kr _ (Option.some.inj hF).symm)
    exact rt_SI C0 hr dX10_bendsAt_7
set_option maxHeartbeats 4000000 in
set_option maxRecDepth 100000 in
theorem wX10_bendsAt_97 {p : Program} {l : Launch} {e : Env} {s : State} {m : MethodId} {args : Array Value} {below : List Frame} {meth : Method} {c : Code} {D : va_G} {cy : Nat → ClassId} (ad : Nat → Nat) (A : Nat → Prop) {S : MS} {r : Int32} {out : ((Nat × Int32 × Int32 × Int32 × Int32 × Int32) ⊕ Int32)} {ls : Array Slot} {x0 : Nat} {x1 : Int32} {x2 : Int32} {x3 : Int32} {x5 : Int32} {x6 : Int32} (C0 : CX p s m args meth c RX10 cX10_bendsAt 8 D cy) (M : MW D cy ad A S s.heap) (hr : meth.sig.returnType = some .int) (hF : bX10_bendsAt_97 S x0 x1 x2 x3 x5 x6 = some out) (hl : lv_has ls 8 [(0, .ref (ad x0)), (1, .int x1), (2, .int x2), (3, .int x3), (5, .int x5), (6, .int x6)]) (Kr : ∀ r9, out = .inr r9 → r9 = r) (Kh0 : ∀ (y0 : Nat) (y1 : Int32) (y2 : Int32) (y3 : Int32) (y4 : Int32) (y5 : Int32), out = .inl (y0, y1, y2, y3, y4, y5) → ∀ (ls1 : Array Slot), lv_has ls1 8 [(0, .ref (ad y0)), (1, .int y1), (2, .int y2), (3, .int y3), (5, .int y4), (6, .int y5)] → W p l e rmX10_bendsAt s m args below meth c s.heap [] 0 0 (MQ below (QcS (some (.int r))) args s 0 0 (fun _ => False)) (F0 m 17 ls1 [])) : W p l e rmX10_bendsAt s m args below meth c s.heap [] 0 0 (MQ below (QcS (some (.int r))) args s 0 0 (fun _ => False)) (F0 m 97 ls []) := by
  unfold bX10_bendsAt_97 at hF
  obtain ⟨hx, hb, -, hown, -, hts, -⟩ := id C0
  obtain ⟨v97, hv, hF⟩ := ob hF
  refine lv_iinc (v := v97) (lv' := [(6, .int v97), (0, .ref (ad x0)), (1, .int x1), (2, .int x2), (3, .int x3), (5, .int x5)]) hx hb dX10_bendsAt_97 hl (k := 5) rfl (by rw [← vtI hv]; rfl) (by decide) rfl (fun ls hl => ?_)
  refine lv_goto (tgt := 17) hx hb dX10_bendsAt_100 (by decide) ?_
  exact Kh0 _ _ _ _ _ _ (Option.some.inj hF).symm _ (lv_sub hl [1, 2, 3, 4, 5, 0] rfl)
set_option maxHeartbeats 4000000 in
set_option maxRecDepth 100000 in
theorem wX10_bendsAt_95 {p : Program} {l : Launch} {e : Env} {s : State} {m : MethodId} {args : Array Value} {below : List Frame} {meth : Method} {c : Code} {D : va_G} {cy : Nat → ClassId} (ad : Nat → Nat) (A : Nat → Prop) {S : MS} {r : Int32} {out : ((Nat × Int32 × Int32 × Int32 × Int32 × Int32) ⊕ Int32)} {ls : Array Slot} {x0 : Nat} {x1 : Int32} {x2 : Int32} {x3 : Int32} {x6 : Int32} {z0 : Int32} (C0 : CX p s m args meth c RX10 cX10_bendsAt 8 D cy) (M : MW D cy ad A S s.heap) (hr : meth.sig.returnType = some .int) (hF : bX10_bendsAt_95 S x0 x1 x2 x3 x6 z0 = some out) (hl : lv_has ls 8 [(0, .ref (ad x0)), (1, .int x1), (2, .int x2), (3, .int x3), (6, .int x6)]) (Kr : ∀ r9, out = .inr r9 → r9 = r) (Kh0 : ∀ (y0 : Nat) (y1 : Int32) (y2 : Int32) (y3 : Int32) (y4 : Int32) (y5 : Int32), out = .inl (y0, y1, y2, y3, y4, y5) → ∀ (ls1 : Array Slot), lv_has ls1 8 [(0, .ref (ad y0)), (1, .int y1), (2, .int y2), (3, .int y3), (5, .int y4), (6, .int y5)] → W p l e rmX10_bendsAt s m args below meth c s.heap [] 0 0 (MQ below (QcS (some (.int r))) args s 0 0 (fun _ => False)) (F0 m 17 ls1 [])) : W p l e rmX10_bendsAt s m args below meth c s.heap [] 0 0 (MQ below (QcS (some (.int r))) args s 0 0 (fun _ => False)) (F0 m 95 ls [.int z0]) := by
  unfold bX10_bendsAt_95 at hF
  obtain ⟨hx, hb, -, hown, -, hts, -⟩ := id C0
  refine lv_istore (lv' := [(5, .int z0), (0, .ref (ad x0)), (1, .int x1), (2, .int x2), (3, .int x3), (6, .int x6)]) hx hb dX10_bendsAt_95 hl (by decide) rfl (fun ls hl => ?_)
  exact wX10_bendsAt_97 ad A C0 M hr hF (lv_sub hl [1, 2, 3, 4, 0, 5] rfl) Kr Kh0
set_option maxHeartbeats 4000000 in
set_option maxRecDepth 100000 in
theorem wX10_bendsAt_55 {p : Program} {l : Launch} {e : Env} {s : State} {m : MethodId} {args : Array Value} {below : List Frame} {meth : Method} {c : Code} {D : va_G} {cy : Nat → ClassId} (ad : Nat → Nat) (A : Nat → Prop) {S : MS} {r : Int32} {out : ((Nat × Int32 × Int32 × Int32 × Int32 × Int32) ⊕ Int32)} {ls : Array Slot} {x0 : Nat} {x1 : Int32} {x2 : Int32} {x3 : Int32} {x5 : Int32} {x6 : Int32} {z0 : Int32} (C0 : CX p s m args meth c RX10 cX10_bendsAt 8 D cy) (M : MW D cy ad A S s.heap) (hr : meth.sig.returnType = some .int) (hF : bX10_bendsAt_55 S x0 x1 x2 x3 x5 x6 z0 = some out) (hl : lv_has ls 8 [(0, .ref (ad x0)), (1, .int x1), (2, .int x2), (3, .int x3), (5, .int x5), (6, .int x6)]) (Kr : ∀ r9, out = .inr r9 → r9 = r) (Kh0 : ∀ (y0 : Nat) (y1 : Int32) (y2 : Int32) (y3 : Int32) (y4 : Int32) (y5 : Int32), out = .inl (y0, y1, y2, y3, y4, y5) → ∀ (ls1 : Array Slot), lv_has ls1 8 [(0, .ref (ad y0)), (1, .int y1), (2, .int y2), (3, .int y3), (5, .int y4), (6, .int y5)] → W p l e rmX10_bendsAt s m args below meth c s.heap [] 0 0 (MQ below (QcS (some (.int r))) args s 0 0 (fun _ => False)) (F0 m 17 ls1 [])) : W p l e rmX10_bendsAt s m args below meth c s.heap [] 0 0 (MQ below (QcS (some (.int r))) args s 0 0 (fun _ => False)) (F0 m 55 ls [.int z0]) := by
  unfold bX10_bendsAt_55 at hF
  obtain ⟨hx, hb, -, hown, -, hts, -⟩ := id C0
  refine lv_aload_n hx hb dX10_bendsAt_55 rfl (lv_at hl 0 rfl) ?_
  obtain ⟨v56, hv, hF⟩ := ob hF
  refine k_getP C0 M hv fl_X10_92 dX10_bendsAt_56 ?_
  refine lv_bipush (v := (60 : Int32)) hx hb dX10_bendsAt_59 (by decide) ?_
  refine lv_iload_n hx hb dX10_bendsAt_61 rfl (lv_at hl 1 rfl) ?_
  refine lv_iconst (v := (1 : Int32)) hx hb dX10_bendsAt_62 (by decide) ?_
  refine lv_iadd hx hb dX10_bendsAt_63 ?_
  refine lv_imul hx hb dX10_bendsAt_64 ?_
  refine lv_iconst (v := (5 : Int32)) hx hb dX10_bendsAt_65 (by decide) ?_
  refine lv_iload_n hx hb dX10_bendsAt_66 rfl (lv_at hl 2 rfl) ?_
  refine lv_iload hx hb dX10_bendsAt_67 (lv_at hl 5 rfl) ?_
  refine lv_iadd hx hb dX10_bendsAt_69 ?_
  refine lv_imul hx hb dX10_bendsAt_70 ?_
  refine lv_iadd hx hb dX10_bendsAt_71 ?_
  refine lv_iload hx hb dX10_bendsAt_72 (lv_at hl 5 rfl) ?_
  refine lv_iadd hx hb dX10_bendsAt_74 ?_
  refine lv_iconst (v := (2 : Int32)) hx hb dX10_bendsAt_75 (by decide) ?_
  refine lv_iadd hx hb dX10_bendsAt_76 ?_
  obtain ⟨v77, hv, hF⟩ := ob hF
  refine k_ld C0 M hv dX10_bendsAt_77 ?_
  refine lv_iadd hx hb dX10_bendsAt_78 ?_
  obtain ⟨v79, hv, hF⟩ := ob hF
  have hv := vtI hv
  refine vtopi hv ?_
  refine lv_istore (lv' := [(7, .int v79), (0, .ref (ad x0)), (1, .int x1), (2, .int x2), (3, .int x3), (5, .int x5), (6, .int x6)]) hx hb dX10_bendsAt_79 hl (by decide) rfl (fun ls hl => ?_)
  refine lv_iload hx hb dX10_bendsAt_81 (lv_at hl 0 rfl) ?_
  refine lv_iload hx hb dX10_bendsAt_83 (lv_at hl 5 rfl) ?_
  refine lv_icmp_ge (tgt := 93) hx hb dX10_bendsAt_85 (by decide) (fun hc => ?_) (fun hc => ?_)
  · have hF := oi_t hc hF
    refine lv_iload hx hb dX10_bendsAt_93 (lv_at hl 5 rfl) ?_
    exact wX10_bendsAt_95 ad A C0 M hr hF (lv_sub hl [1, 2, 3, 4, 6] rfl) Kr Kh0
  · have hF := oi_f hc hF
    refine lv_iload hx hb dX10_bendsAt_88 (lv_at hl 0 rfl) ?_
    refine lv_goto (tgt := 95) hx hb dX10_bendsAt_90 (by decide) ?_
    exact wX10_bendsAt_95 ad A C0 M hr hF (lv_sub hl [1, 2, 3, 4, 6] rfl) Kr Kh0
set_option maxHeartbeats 4000000 in
set_option maxRecDepth 100000 in
theorem wX10_bendsAt_17 {p : Program} {l : Launch} {e : Env} {s : State} {m : MethodId} {args : Array Value} {below : List Frame} {meth : Method} {c : Code} {D : va_G} {cy : Nat → ClassId} (ad : Nat → Nat) (A : Nat → Prop) {S : MS} {r : Int32} {out : ((Nat × Int32 × Int32 × Int32 × Int32 × Int32) ⊕ Int32)} {ls : Array Slot} {x0 : Nat} {x1 : Int32} {x2 : Int32} {x3 : Int32} {x5 : Int32} {x6 : Int32} (C0 : CX p s m args meth c RX10 cX10_bendsAt 8 D cy) (M : MW D cy ad A S s.heap) (hr : meth.sig.returnType = some .int) (hF : bX10_bendsAt_17 S x0 x1 x2 x3 x5 x6 = some out) (hl : lv_has ls 8 [(0, .ref (ad x0)), (1, .int x1), (2, .int x2), (3, .int x3), (5, .int x5), (6, .int x6)]) (Kr : ∀ r9, out = .inr r9 → r9 = r) (Kh0 : ∀ (y0 : Nat) (y1 : Int32) (y2 : Int32) (y3 : Int32) (y4 : Int32) (y5 : Int32), out = .inl (y0, y1, y2, y3, y4, y5) → ∀ (ls1 : Array Slot), lv_has ls1 8 [(0, .ref (ad y0)), (1, .int y1), (2, .int y2), (3, .int y3), (5, .int y4), (6, .int y5)] → W p l e rmX10_bendsAt s m args below meth c s.heap [] 0 0 (MQ below (QcS (some (.int r))) args s 0 0 (fun _ => False)) (F0 m 17 ls1 [])) : W p l e rmX10_bendsAt s m args below meth c s.heap [] 0 0 (MQ below (QcS (some (.int r))) args s 0 0 (fun _ => False)) (F0 m 17 ls []) := by
  unfold bX10_bendsAt_17 at hF
  obtain ⟨hx, hb, -, hown, -, hts, -⟩ := id C0
  refine lv_iload hx hb dX10_bendsAt_17 (lv_at hl 5 rfl) ?_
  refine lv_iconst (v := (2 : Int32)) hx hb dX10_bendsAt_19 (by decide) ?_
  refine lv_icmp_gt (tgt := 103) hx hb dX10_bendsAt_20 (by decide) (fun hc => ?_) (fun hc => ?_)
  · have hF := oi_t hc hF
    refine lv_iload hx hb dX10_bendsAt_103 (lv_at hl 4 rfl) ?_
    obtain rfl := (Kr _ (Option.some.inj hF).symm)
    exact rt_SI C0 hr dX10_bendsAt_105
  · have hF := oi_f hc hF
    refine lv_aload_n hx hb dX10_bendsAt_23 rfl (lv_at hl 0 rfl) ?_
    refine lv_iload_n hx hb dX10_bendsAt_24 rfl (lv_at hl 1 rfl) ?_
    refine lv_iconst (v := (1 : Int32)) hx hb dX10_bendsAt_25 (by decide) ?_
    refine lv_iadd hx hb dX10_bendsAt_26 ?_
    refine lv_iload_n hx hb dX10_bendsAt_27 rfl (lv_at hl 2 rfl) ?_
    refine lv_iload hx hb dX10_bendsAt_28 (lv_at hl 5 rfl) ?_
    refine lv_iadd hx hb dX10_bendsAt_30 ?_
    obtain ⟨_, hrec, hF⟩ := ob hF
    obtain ⟨v31, hcl, hF⟩ := ob hF
    refine go_SI (r_V (rest := []) (As := [.int (x1 + (1 : Int32)), .int (x2 + x6)]) C0 cb_X10_316 M hrec (tX10_isLet l D cy ad A hcl) (pre_R C0 M) hl dX10_bendsAt_31 rfl (Nat.le_of_ble_eq_true rfl) ⟨rfl, rfl⟩ ⟨Nat.le_of_ble_eq_true rfl, Nat.le_of_ble_eq_true rfl⟩ ⟨Nat.le_of_ble_eq_true rfl, Nat.le_of_ble_eq_true rfl⟩ rfl) ?_
    refine lv_if_eq (tgt := 97) hx hb dX10_bendsAt_34 (by decide) (fun hc => ?_) (fun hc => ?_)
    · have hF := oi_t hc hF
      exact wX10_bendsAt_97 ad A C0 M hr hF (lv_sub hl [0, 1, 2, 3, 4, 5] rfl) Kr Kh0
    · have hF := oi_f hc hF
      refine lv_iload_n hx hb dX10_bendsAt_37 rfl (lv_at hl 3 rfl) ?_
      refine lv_iconst (v := (5 : Int32)) hx hb dX10_bendsAt_38 (by decide) ?_
      refine lv_icmp_ne (tgt := 46) hx hb dX10_bendsAt_39 (by decide) (fun hc => ?_) (fun hc => ?_)
      · have hF := oi_f hc hF
        refine lv_iload hx hb dX10_bendsAt_46 (lv_at hl 5 rfl) ?_
        refine lv_iconst (v := (2 : Int32)) hx hb dX10_bendsAt_48 (by decide) ?_
        refine lv_iadd hx hb dX10_bendsAt_49 ?_
        refine lv_iload_n hx hb dX10_bendsAt_50 rfl (lv_at hl 3 rfl) ?_
        refine lv_isub hx hb dX10_bendsAt_51 ?_
        obtain ⟨v52, hcl, hF⟩ := ob hF
        refine go_SI (r_S (rest := []) (As := [.int ((x6 + (2 : Int32)) - x3)]) C0 cb_X10_195 (tX10_sizeOf l D cy ad hcl) (pre_S C0) hl dX10_bendsAt_52 rfl (Nat.le_of_ble_eq_true rfl) ⟨rfl, rfl⟩ ⟨Nat.le_of_ble_eq_true rfl, Nat.le_of_ble_eq_true rfl⟩ ⟨Nat.le_of_ble_eq_true rfl, Nat.le_of_ble_eq_true rfl⟩ rfl) ?_
        exact wX10_bendsAt_55 ad A C0 M hr hF (lv_sub hl [0, 1, 2, 3, 4, 5] rfl) Kr Kh0
      · have hF := oi_t hc hF
        refine lv_iconst (v := (0 : Int32)) hx hb dX10_bendsAt_42 (by decide) ?_
        refine lv_goto (tgt := 55) hx hb dX10_bendsAt_43 (by decide) ?_
        exact wX10_bendsAt_55 ad A C0 M hr hF (lv_sub hl [0, 1, 2, 3, 4, 5] rfl) Kr Kh0
set_option maxHeartbeats 4000000 in
set_option maxRecDepth 100000 in
theorem tX10_bendsAt (l : Launch) (D : va_G) (cy : Nat → ClassId) (ad : Nat → Nat) (A : Nat → Prop) {S : MS} {a0 : Nat} {a1 : Int32} {a2 : Int32} {a3 : Int32} {a4 : Int32} {r : Int32} (h : fX10_bendsAt S a0 a1 a2 a3 a4 = some r) : Met l yX10_bendsAt [Cond.code yX10_bendsAt cX10_bendsAt 8 (some .int)] rmX10_bendsAt (PcR D cy ad A S [.ref (ad a0), .int a1, .int a2, .int a3, .int a4]) (QcS (some (.int r))) 0 0 (fun _ => False) := by
  refine met_R (by decide +kernel) cw_X10_bendsAt (Nat.le_of_ble_eq_true rfl) ?_
  intro p e s m args below meth c ls C0 M hr hl
  have hl : lv_has ls 8 [(0, .ref (ad a0)), (1, .int a1), (2, .int a2), (3, .int a3), (4, .int a4)] := hl
  have key := lim_walk (step := sX10_bendsAt S) (fun (q : (Nat × Int32 × Int32 × Int32 × Int32 × Int32)) (r9 : Int32) => ∀ (r : Int32), r9 = r → ((∀ (y0 : Nat) (y1 : Int32) (y2 : Int32) (y3 : Int32) (y4 : Int32) (y5 : Int32), q = (y0, y1, y2, y3, y4, y5) → ∀ (ls1 : Array Slot), lv_has ls1 8 [(0, .ref (ad y0)), (1, .int y1), (2, .int y2), (3, .int y3), (5, .int y4), (6, .int y5)] → W p l e rmX10_bendsAt s m args below meth c s.heap [] 0 0 (MQ below (QcS (some (.int r))) args s 0 0 (fun _ => False)) (F0 m 17 ls1 [])))) ?_
  · unfold fX10_bendsAt at h
    cases hs0 : bX10_bendsAt_0 S a0 a1 a2 a3 a4 with
    | none => rw [hs0] at h; cases h
    | some out =>
      rw [hs0] at h
      refine wX10_bendsAt_0 ad A C0 M hr hs0 hl (fun r9 hr9 => ?_) ?_
      · subst hr9; exact Option.some.inj h
      · intro y0 y1 y2 y3 y4 y5 hq; subst hq; exact (key _ _ h _ rfl) _ _ _ _ _ _ rfl
  · intro q r9 out hst hre hin9
    intro r er; subst er
    refine ?_
    · intro y0 y1 y2 y3 y4 y5 hq ls1 hl
      subst hq
      exact wX10_bendsAt_17 ad A C0 M hr hst hl hre (fun k0 k1 k2 k3 k4 k5 hk => (hin9 _ hk _ rfl) _ _ _ _ _ _ rfl)
set_option maxHeartbeats 4000000 in
set_option maxRecDepth 100000 in
theorem wX10_isShift_33 {p : Program} {l : Launch} {e : Env} {s : State} {m : MethodId} {args : Array Value} {below : List Frame} {meth : Method} {c : Code} {D : va_G} {cy : Nat → ClassId} (ad : Nat → Nat) (A : Nat → Prop) {r : Int32} {ls : Array Slot} {z0 : Int32} (C0 : CX p s m args meth c RX10 cX10_isShift 2 D cy) (hr : meth.sig.returnType = some .boolean) (hF : bX10_isShift_33 z0 = some r) (hl : lv_has ls 2 []) : W p l e rmX10_isShift s m args below meth c s.heap [] 0 0 (MQ below (QcS (some (.int r))) args s 0 0 (fun _ => False)) (F0 m 33 ls [.int z0]) := by
  unfold bX10_isShift_33 at hF
  obtain ⟨hx, hb, -, hown, -, hts, -⟩ := id C0
  obtain ⟨z33, hz, hF⟩ := ob hF
  have hz2 := (o_if hz).2
  refine vtopi hz2 ?_
  rw [hz2] at hz
  obtain rfl := (Option.some.inj hF)
  exact rt_SZ C0 hr hz dX10_isShift_33
set_option maxHeartbeats 4000000 in
set_option maxRecDepth 100000 in
theorem wX10_isShift_32 {p : Program} {l : Launch} {e : Env} {s : State} {m : MethodId} {args : Array Value} {below : List Frame} {meth : Method} {c : Code} {D : va_G} {cy : Nat → ClassId} (ad : Nat → Nat) (A : Nat → Prop) {r : Int32} {ls : Array Slot} (C0 : CX p s m args meth c RX10 cX10_isShift 2 D cy) (hr : meth.sig.returnType = some .boolean) (hF : bX10_isShift_32 = some r) (hl : lv_has ls 2 []) : W p l e rmX10_isShift s m args below meth c s.heap [] 0 0 (MQ below (QcS (some (.int r))) args s 0 0 (fun _ => False)) (F0 m 32 ls []) := by
  unfold bX10_isShift_32 at hF
  obtain ⟨hx, hb, -, hown, -, hts, -⟩ := id C0
  refine lv_iconst (v := (0 : Int32)) hx hb dX10_isShift_32 (by decide) ?_
  exact wX10_isShift_33 ad A C0 hr hF (lv_sub hl [] rfl)
set_option maxHeartbeats 4000000 in
set_option maxRecDepth 100000 in
theorem wX10_isShift_0 {p : Program} {l : Launch} {e : Env} {s : State} {m : MethodId} {args : Array Value} {below : List Frame} {meth : Method} {c : Code} {D : va_G} {cy : Nat → ClassId} (ad : Nat → Nat) (A : Nat → Prop) {r : Int32} {ls : Array Slot} {x0 : Int32} {x1 : Int32} (C0 : CX p s m args meth c RX10 cX10_isShift 2 D cy) (hr : meth.sig.returnType = some .boolean) (hF : bX10_isShift_0 x0 x1 = some r) (hl : lv_has ls 2 [(0, .int x0), (1, .int x1)]) : W p l e rmX10_isShift s m args below meth c s.heap [] 0 0 (MQ below (QcS (some (.int r))) args s 0 0 (fun _ => False)) (F0 m 0 ls []) := by
  unfold bX10_isShift_0 at hF
  obtain ⟨hx, hb, -, hown, -, hts, -⟩ := id C0
  refine lv_iload_n hx hb dX10_isShift_0 rfl (lv_at hl 0 rfl) ?_
  refine lv_i2l (v := (x0.toInt64)) hx hb dX10_isShift_1 rfl ?_
  refine lv_ldc2 (v := (-11 : Int64)) hx hb hown (hts _ (uw_of 1539 (by decide +kernel) rfl)) dX10_isShift_2 ?_
  refine lv_ldc2 (v := (11 : Int64)) hx hb hown (hts _ (uw_of 1257 (by decide +kernel) rfl)) dX10_isShift_5 ?_
  obtain ⟨v8, hcl, hF⟩ := ob hF
  refine go_SI (r_S (rest := []) (As := [.long (x0.toInt64), .long (-11 : Int64), .long (11 : Int64)]) C0 cb_X10_156 (tX10_in l D cy ad hcl) (pre_S C0) hl dX10_isShift_8 rfl (Nat.le_of_ble_eq_true rfl) ⟨rfl, rfl⟩ ⟨Nat.le_of_ble_eq_true rfl, Nat.le_of_ble_eq_true rfl⟩ ⟨Nat.le_of_ble_eq_true rfl, Nat.le_of_ble_eq_true rfl⟩ rfl) ?_
  refine lv_if_eq (tgt := 32) hx hb dX10_isShift_11 (by decide) (fun hc => ?_) (fun hc => ?_)
  · have hF := oi_t hc hF
    exact wX10_isShift_32 ad A C0 hr hF (lv_sub hl [] rfl)
  · have hF := oi_f hc hF
    refine lv_iload_n hx hb dX10_isShift_14 rfl (lv_at hl 1 rfl) ?_
    refine lv_i2l (v := (x1.toInt64)) hx hb dX10_isShift_15 rfl ?_
    refine lv_ldc2 (v := (-11 : Int64)) hx hb hown (hts _ (uw_of 1539 (by decide +kernel) rfl)) dX10_isShift_16 ?_
    refine lv_ldc2 (v := (11 : Int64)) hx hb hown (hts _ (uw_of 1257 (by decide +kernel) rfl)) dX10_isShift_19 ?_
    obtain ⟨v22, hcl, hF⟩ := ob hF
    refine go_SI (r_S (rest := []) (As := [.long (x1.toInt64), .long (-11 : Int64), .long (11 : Int64)]) C0 cb_X10_156 (tX10_in l D cy ad hcl) (pre_S C0) hl dX10_isShift_22 rfl (Nat.le_of_ble_eq_true rfl) ⟨rfl, rfl⟩ ⟨Nat.le_of_ble_eq_true rfl, Nat.le_of_ble_eq_true rfl⟩ ⟨Nat.le_of_ble_eq_true rfl, Nat.le_of_ble_eq_true rfl⟩ rfl) ?_
    refine lv_if_eq (tgt := 32) hx hb dX10_isShift_25 (by decide) (fun hc => ?_) (fun hc => ?_)
    · have hF := oi_t hc hF
      exact wX10_isShift_32 ad A C0 hr hF (lv_sub hl [] rfl)
    · have hF := oi_f hc hF
      refine lv_iconst (v := (1 : Int32)) hx hb dX10_isShift_28 (by decide) ?_
      refine lv_goto (tgt := 33) hx hb dX10_isShift_29 (by decide) ?_
      exact wX10_isShift_33 ad A C0 hr hF (lv_sub hl [] rfl)
set_option maxHeartbeats 4000000 in
set_option maxRecDepth 100000 in
theorem tX10_isShift (l : Launch) (D : va_G) (cy : Nat → ClassId) (ad : Nat → Nat) {a0 : Int32} {a1 : Int32} {r : Int32} (h : fX10_isShift a0 a1 = some r) : Met l yX10_isShift [Cond.code yX10_isShift cX10_isShift 2 (some .boolean)] rmX10_isShift (PcS D cy [.int a0, .int a1]) (QcS (some (.int r))) 0 0 (fun _ => False) := by
  refine met_S (by decide +kernel) cw_X10_isShift (Nat.le_of_ble_eq_true rfl) ?_
  intro p e s m args below meth c ls C0 hr hl
  have hl : lv_has ls 2 [(0, .int a0), (1, .int a1)] := hl
  exact wX10_isShift_0 ad (fun _ => False) C0 hr h hl
set_option maxHeartbeats 4000000 in
set_option maxRecDepth 100000 in
theorem wX10_valueMoved_34 {p : Program} {l : Launch} {e : Env} {s : State} {m : MethodId} {args : Array Value} {below : List Frame} {meth : Method} {c : Code} {D : va_G} {cy : Nat → ClassId} (ad : Nat → Nat) (A : Nat → Prop) {S : MS} {r : Int32} {ls : Array Slot} {z0 : Int32} (C0 : CX p s m args meth c RX10 cX10_valueMoved 5 D cy) (M : MW D cy ad A S s.heap) (hr : meth.sig.returnType = some .int) (hF : bX10_valueMoved_34 S z0 = some r) (hl : lv_has ls 5 []) : W p l e rmX10_valueMoved s m args below meth c s.heap [] 0 0 (MQ below (QcS (some (.int r))) args s 0 0 (fun _ => False)) (F0 m 34 ls [.int z0]) := by
  unfold bX10_valueMoved_34 at hF
  obtain ⟨hx, hb, -, hown, -, hts, -⟩ := id C0
  obtain rfl := (Option.some.inj hF)
  exact rt_SI C0 hr dX10_valueMoved_34
set_option maxHeartbeats 4000000 in
set_option maxRecDepth 100000 in
theorem wX10_valueMoved_0 {p : Program} {l : Launch} {e : Env} {s : State} {m : MethodId} {args : Array Value} {below : List Frame} {meth : Method} {c : Code} {D : va_G} {cy : Nat → ClassId} (ad : Nat → Nat) (A : Nat → Prop) {S : MS} {r : Int32} {ls : Array Slot} {x0 : Nat} {x1 : Int32} {x2 : Int32} {x3 : Int32} {x4 : Int32} (C0 : CX p s m args meth c RX10 cX10_valueMoved 5 D cy) (M : MW D cy ad A S s.heap) (hr : meth.sig.returnType = some .int) (hF : bX10_valueMoved_0 S x0 x1 x2 x3 x4 = some r) (hl : lv_has ls 5 [(0, .ref (ad x0)), (1, .int x1), (2, .int x2), (3, .int x3), (4, .int x4)]) : W p l e rmX10_valueMoved s m args below meth c s.heap [] 0 0 (MQ below (QcS (some (.int r))) args s 0 0 (fun _ => False)) (F0 m 0 ls []) := by
  unfold bX10_valueMoved_0 at hF
  obtain ⟨hx, hb, -, hown, -, hts, -⟩ := id C0
  refine lv_iload_n hx hb dX10_valueMoved_0 rfl (lv_at hl 3 rfl) ?_
  refine lv_iload_n hx hb dX10_valueMoved_1 rfl (lv_at hl 1 rfl) ?_
  refine lv_isub hx hb dX10_valueMoved_2 ?_
  refine lv_iload hx hb dX10_valueMoved_3 (lv_at hl 4 rfl) ?_
  refine lv_iload_n hx hb dX10_valueMoved_5 rfl (lv_at hl 2 rfl) ?_
  refine lv_isub hx hb dX10_valueMoved_6 ?_
  obtain ⟨v7, hcl, hF⟩ := ob hF
  refine go_SI (r_S (rest := []) (As := [.int (x3 - x1), .int (x4 - x2)]) C0 cb_X10_164 (tX10_isPlace l D cy ad hcl) (pre_S C0) hl dX10_valueMoved_7 rfl (Nat.le_of_ble_eq_true rfl) ⟨rfl, rfl⟩ ⟨Nat.le_of_ble_eq_true rfl, Nat.le_of_ble_eq_true rfl⟩ ⟨Nat.le_of_ble_eq_true rfl, Nat.le_of_ble_eq_true rfl⟩ rfl) ?_
  refine lv_if_eq (tgt := 32) hx hb dX10_valueMoved_10 (by decide) (fun hc => ?_) (fun hc => ?_)
  · have hF := oi_t hc hF
    refine lv_bipush (v := (-9 : Int32)) hx hb dX10_valueMoved_32 (by decide) ?_
    exact wX10_valueMoved_34 ad A C0 M hr hF (lv_sub hl [] rfl)
  · have hF := oi_f hc hF
    refine lv_aload_n hx hb dX10_valueMoved_13 rfl (lv_at hl 0 rfl) ?_
    obtain ⟨v14, hv, hF⟩ := ob hF
    refine k_getP C0 M hv fl_X10_55 dX10_valueMoved_14 ?_
    refine lv_bipush (v := (12 : Int32)) hx hb dX10_valueMoved_17 (by decide) ?_
    refine lv_iload hx hb dX10_valueMoved_19 (lv_at hl 4 rfl) ?_
    refine lv_iload_n hx hb dX10_valueMoved_21 rfl (lv_at hl 2 rfl) ?_
    refine lv_isub hx hb dX10_valueMoved_22 ?_
    refine lv_imul hx hb dX10_valueMoved_23 ?_
    refine lv_iload_n hx hb dX10_valueMoved_24 rfl (lv_at hl 3 rfl) ?_
    refine lv_iadd hx hb dX10_valueMoved_25 ?_
    refine lv_iload_n hx hb dX10_valueMoved_26 rfl (lv_at hl 1 rfl) ?_
    refine lv_isub hx hb dX10_valueMoved_27 ?_
    obtain ⟨v28, hv, hF⟩ := ob hF
    refine k_ld C0 M hv dX10_valueMoved_28 ?_
    refine lv_goto (tgt := 34) hx hb dX10_valueMoved_29 (by decide) ?_
    exact wX10_valueMoved_34 ad A C0 M hr hF (lv_sub hl [] rfl)
set_option maxHeartbeats 4000000 in
set_option maxRecDepth 100000 in
theorem tX10_valueMoved (l : Launch) (D : va_G) (cy : Nat → ClassId) (ad : Nat → Nat) (A : Nat → Prop) {S : MS} {a0 : Nat} {a1 : Int32} {a2 : Int32} {a3 : Int32} {a4 : Int32} {r : Int32} (h : fX10_valueMoved S a0 a1 a2 a3 a4 = some r) : Met l yX10_valueMoved [Cond.code yX10_valueMoved cX10_valueMoved 5 (some .int)] rmX10_valueMoved (PcR D cy ad A S [.ref (ad a0), .int a1, .int a2, .int a3, .int a4]) (QcS (some (.int r))) 0 0 (fun _ => False) := by
  refine met_R (by decide +kernel) cw_X10_valueMoved (Nat.le_of_ble_eq_true rfl) ?_
  intro p e s m args below meth c ls C0 M hr hl
  have hl : lv_has ls 5 [(0, .ref (ad a0)), (1, .int a1), (2, .int a2), (3, .int a3), (4, .int a4)] := hl
  exact wX10_valueMoved_0 ad A C0 M hr h hl
set_option maxHeartbeats 4000000 in
set_option maxRecDepth 100000 in
theorem wX10_layBeside_0 {p : Program} {l : Launch} {e : Env} {s : State} {m : MethodId} {args : Array Value} {below : List Frame} {meth : Method} {c : Code} {D : va_G} {cy : Nat → ClassId} (ad : Nat → Nat) (A : Nat → Prop) {S : MS} {S' : MS} {H : Heap} {locs : List Loc} {n0 : Nat} {out : ((Nat × Int32 × Int32 × Int32 × Int32 × MS) ⊕ MS)} {ls : Array Slot} {x0 : Nat} {x1 : Int32} {x2 : Int32} {x3 : Int32} (C0 : CX p s m args meth c RX10 cX10_layBeside 7 D cy) (M : ST D cy ad A s.heap (ZN n0 s.heap.size) S H locs) (hr : meth.sig.returnType = none) (hF : bX10_layBeside_0 S x0 x1 x2 x3 = some out) (hl : lv_has ls 7 [(0, .ref (ad x0)), (1, .int x1), (2, .int x2), (3, .int x3)]) (Kr : ∀ r9, out = .inr r9 → r9 = S') (Kh0 : ∀ (y0 : Nat) (y1 : Int32) (y2 : Int32) (y3 : Int32) (y4 : Int32) (S2 : MS), out = .inl (y0, y1, y2, y3, y4, S2) → ∀ (H1 : Heap) (locs1 : List Loc) (ls1 : Array Slot), ST D cy ad A s.heap (ZN n0 s.heap.size) S2 H1 locs1 → lv_has ls1 7 [(0, .ref (ad y0)), (1, .int y1), (2, .int y2), (3, .int y3), (4, .int y4)] → W p l e rmX10_layBeside s m args below meth c H1 locs1 0 0 (MQ below (QcM D cy ad A n0 S' (none)) args s 0 0 A) (F0 m 18 ls1 [])) : W p l e rmX10_layBeside s m args below meth c H locs 0 0 (MQ below (QcM D cy ad A n0 S' (none)) args s 0 0 A) (F0 m 0 ls []) := by
  unfold bX10_layBeside_0 at hF
  obtain ⟨hx, hb, -, hown, -, hts, -⟩ := id C0
  refine lv_aload_n hx hb dX10_layBeside_0 rfl (lv_at hl 0 rfl) ?_
  refine lv_iconst (v := (0 : Int32)) hx hb dX10_layBeside_1 (by decide) ?_
  obtain ⟨S2, hv, hF⟩ := ob hF
  refine k_sI C0 M hv fl_X10_372 dX10_layBeside_2 (fun H locs M => ?_)
  refine lv_aload_n hx hb dX10_layBeside_5 rfl (lv_at hl 0 rfl) ?_
  refine lv_lconst (v := (0 : Int64)) hx hb dX10_layBeside_6 (by decide) ?_
  obtain ⟨S7, hv, hF⟩ := ob hF
  refine k_sJ C0 M hv fl_X10_375 dX10_layBeside_7 (fun H locs M => ?_)
  refine lv_aload_n hx hb dX10_layBeside_10 rfl (lv_at hl 0 rfl) ?_
  refine lv_lconst (v := (0 : Int64)) hx hb dX10_layBeside_11 (by decide) ?_
  obtain ⟨S12, hv, hF⟩ := ob hF
  refine k_sJ C0 M hv fl_X10_379 dX10_layBeside_12 (fun H locs M => ?_)
  refine lv_iconst (v := (0 : Int32)) hx hb dX10_layBeside_15 (by decide) ?_
  refine lv_istore (lv' := [(4, .int (0 : Int32)), (0, .ref (ad x0)), (1, .int x1), (2, .int x2), (3, .int x3)]) hx hb dX10_layBeside_16 hl (by decide) rfl (fun ls hl => ?_)
  exact Kh0 _ _ _ _ _ _ (Option.some.inj hF).symm _ _ _ M (lv_sub hl [1, 2, 3, 4, 0] rfl)
set_option maxHeartbeats 4000000 in
set_option maxRecDepth 100000 in
theorem wX10_layBeside_116 {p : Program} {l : Launch} {e : Env} {s : State} {m : MethodId} {args : Array Value} {below : List Frame} {meth : Method} {c : Code} {D : va_G} {cy : Nat → ClassId} (ad : Nat → Nat) (A : Nat → Prop) {S : MS} {S' : MS} {H : Heap} {locs : List Loc} {n0 : Nat} {out : ((Nat × Int32 × Int32 × Int32 × Int32 × MS) ⊕ MS)} {ls : Array Slot} {x0 : Nat} {x1 : Int32} {x2 : Int32} {x3 : Int32} {x4 : Int32} (C0 : CX p s m args meth c RX10 cX10_layBeside 7 D cy) (M : ST D cy ad A s.heap (ZN n0 s.heap.size) S H locs) (hr : meth.sig.returnType = none) (hF : bX10_layBeside_116 S x0 x1 x2 x3 x4 = some out) (hl : lv_has ls 7 [(0, .ref (ad x0)), (1, .int x1), (2, .int x2), (3, .int x3), (4, .int x4)]) (Kr : ∀ r9, out = .inr r9 → r9 = S') (Kh0 : ∀ (y0 : Nat) (y1 : Int32) (y2 : Int32) (y3 : Int32) (y4 : Int32) (S2 : MS), out = .inl (y0, y1, y2, y3, y4, S2) → ∀ (H1 : Heap) (locs1 : List Loc) (ls1 : Array Slot), ST D cy ad A s.heap (ZN n0 s.heap.size) S2 H1 locs1 → lv_has ls1 7 [(0, .ref (ad y0)), (1, .int y1), (2, .int y2), (3, .int y3), (4, .int y4)] → W p l e rmX10_layBeside s m args below meth c H1 locs1 0 0 (MQ below (QcM D cy ad A n0 S' (none)) args s 0 0 A) (F0 m 18 ls1 [])) : W p l e rmX10_layBeside s m args below meth c H locs 0 0 (MQ below (QcM D cy ad A n0 S' (none)) args s 0 0 A) (F0 m 116 ls []) := by
  unfold bX10_layBeside_116 at hF
  obtain ⟨hx, hb, -, hown, -, hts, -⟩ := id C0
  obtain ⟨v116, hv, hF⟩ := ob hF
  refine lv_iinc (v := v116) (lv' := [(4, .int v116), (0, .ref (ad x0)), (1, .int x1), (2, .int x2), (3, .int x3)]) hx hb dX10_layBeside_116 hl (k := 4) rfl (by rw [← vtI hv]; rfl) (by decide) rfl (fun ls hl => ?_)
  refine lv_goto (tgt := 18) hx hb dX10_layBeside_119 (by decide) ?_
  exact Kh0 _ _ _ _ _ _ (Option.some.inj hF).symm _ _ _ M (lv_sub hl [1, 2, 3, 4, 0] rfl)
set_option maxHeartbeats 4000000 in
set_option maxRecDepth 100000 in
theorem wX10_layBeside_18 {p : Program} {l : Launch} {e : Env} {s : State} {m : MethodId} {args : Array Value} {below : List Frame} {meth : Method} {c : Code} {D : va_G} {cy : Nat → ClassId} (ad : Nat → Nat) (A : Nat → Prop) {S : MS} {S' : MS} {H : Heap} {locs : List Loc} {n0 : Nat} {out : ((Nat × Int32 × Int32 × Int32 × Int32 × MS) ⊕ MS)} {ls : Array Slot} {x0 : Nat} {x1 : Int32} {x2 : Int32} {x3 : Int32} {x4 : Int32} (C0 : CX p s m args meth c RX10 cX10_layBeside 7 D cy) (M : ST D cy ad A s.heap (ZN n0 s.heap.size) S H locs) (hr : meth.sig.returnType = none) (hF : bX10_layBeside_18 S x0 x1 x2 x3 x4 = some out) (hl : lv_has ls 7 [(0, .ref (ad x0)), (1, .int x1), (2, .int x2), (3, .int x3), (4, .int x4)]) (Kr : ∀ r9, out = .inr r9 → r9 = S') (Kh0 : ∀ (y0 : Nat) (y1 : Int32) (y2 : Int32) (y3 : Int32) (y4 : Int32) (S2 : MS), out = .inl (y0, y1, y2, y3, y4, S2) → ∀ (H1 : Heap) (locs1 : List Loc) (ls1 : Array Slot), ST D cy ad A s.heap (ZN n0 s.heap.size) S2 H1 locs1 → lv_has ls1 7 [(0, .ref (ad y0)), (1, .int y1), (2, .int y2), (3, .int y3), (4, .int y4)] → W p l e rmX10_layBeside s m args below meth c H1 locs1 0 0 (MQ below (QcM D cy ad A n0 S' (none)) args s 0 0 A) (F0 m 18 ls1 [])) : W p l e rmX10_layBeside s m args below meth c H locs 0 0 (MQ below (QcM D cy ad A n0 S' (none)) args s 0 0 A) (F0 m 18 ls []) := by
  unfold bX10_layBeside_18 at hF
  obtain ⟨hx, hb, -, hown, -, hts, -⟩ := id C0
  refine lv_iload hx hb dX10_layBeside_18 (lv_at hl 4 rfl) ?_
  refine lv_sipush (v := (144 : Int32)) hx hb dX10_layBeside_20 (by decide) ?_
  refine lv_icmp_ge (tgt := 122) hx hb dX10_layBeside_23 (by decide) (fun hc => ?_) (fun hc => ?_)
  · have hF := oi_t hc hF
    obtain rfl := (Kr _ (Option.some.inj hF).symm)
    exact rt_MV C0 M hr dX10_layBeside_122
  · have hF := oi_f hc hF
    refine lv_aload_n hx hb dX10_layBeside_26 rfl (lv_at hl 0 rfl) ?_
    refine lv_iload_n hx hb dX10_layBeside_27 rfl (lv_at hl 1 rfl) ?_
    refine lv_iload_n hx hb dX10_layBeside_28 rfl (lv_at hl 2 rfl) ?_
    refine lv_iload hx hb dX10_layBeside_29 (lv_at hl 4 rfl) ?_
    refine lv_bipush (v := (12 : Int32)) hx hb dX10_layBeside_31 (by decide) ?_
    refine lv_irem hx hb dX10_layBeside_33 (by decide) ?_
    refine lv_iload hx hb dX10_layBeside_34 (lv_at hl 4 rfl) ?_
    refine lv_bipush (v := (12 : Int32)) hx hb dX10_layBeside_36 (by decide) ?_
    refine lv_idiv hx hb dX10_layBeside_38 (by decide) ?_
    obtain ⟨_, hrec, hF⟩ := ob hF
    obtain ⟨v39, hcl, hF⟩ := ob hF
    refine go_SI (r_V (rest := []) (As := [.int x1, .int x2, .int (x4 - x4 / (12 : Int32) * (12 : Int32)), .int (x4 / (12 : Int32))]) C0 cb_X10_369 M.1 hrec (tX10_valueMoved l D cy ad A hcl) (pre_R C0 M.1) hl dX10_layBeside_39 rfl (Nat.le_of_ble_eq_true rfl) ⟨rfl, rfl⟩ ⟨Nat.le_of_ble_eq_true rfl, Nat.le_of_ble_eq_true rfl⟩ ⟨Nat.le_of_ble_eq_true rfl, Nat.le_of_ble_eq_true rfl⟩ rfl) ?_
    refine lv_istore (lv' := [(5, .int v39), (0, .ref (ad x0)), (1, .int x1), (2, .int x2), (3, .int x3), (4, .int x4)]) hx hb dX10_layBeside_42 hl (by decide) rfl (fun ls hl => ?_)
    refine lv_aload_n hx hb dX10_layBeside_44 rfl (lv_at hl 1 rfl) ?_
    obtain ⟨v45, hv, hF⟩ := ob hF
    refine k_getP C0 M.1 hv fl_X10_101 dX10_layBeside_45 ?_
    refine lv_sipush (v := (144 : Int32)) hx hb dX10_layBeside_48 (by decide) ?_
    refine lv_iload_n hx hb dX10_layBeside_51 rfl (lv_at hl 4 rfl) ?_
    refine lv_imul hx hb dX10_layBeside_52 ?_
    refine lv_iload hx hb dX10_layBeside_53 (lv_at hl 5 rfl) ?_
    refine lv_iadd hx hb dX10_layBeside_55 ?_
    obtain ⟨v56, hv, hF⟩ := ob hF
    refine k_ld C0 M.1 hv dX10_layBeside_56 ?_
    refine lv_istore (lv' := [(6, .int v56), (5, .int v39), (0, .ref (ad x0)), (1, .int x1), (2, .int x2), (3, .int x3), (4, .int x4)]) hx hb dX10_layBeside_57 hl (by decide) rfl (fun ls hl => ?_)
    refine lv_iload hx hb dX10_layBeside_59 (lv_at hl 1 rfl) ?_
    refine lv_bipush (v := (-9 : Int32)) hx hb dX10_layBeside_61 (by decide) ?_
    refine lv_icmp_eq (tgt := 116) hx hb dX10_layBeside_63 (by decide) (fun hc => ?_) (fun hc => ?_)
    · have hF := oi_t hc hF
      exact wX10_layBeside_116 ad A C0 M hr hF (lv_sub hl [2, 3, 4, 5, 6] rfl) Kr Kh0
    · have hF := oi_f hc hF
      refine lv_iload hx hb dX10_layBeside_66 (lv_at hl 0 rfl) ?_
      refine lv_bipush (v := (-9 : Int32)) hx hb dX10_layBeside_68 (by decide) ?_
      refine lv_icmp_eq (tgt := 116) hx hb dX10_layBeside_70 (by decide) (fun hc => ?_) (fun hc => ?_)
      · have hF := oi_t hc hF
        exact wX10_layBeside_116 ad A C0 M hr hF (lv_sub hl [2, 3, 4, 5, 6] rfl) Kr Kh0
      · have hF := oi_f hc hF
        refine lv_aload_n hx hb dX10_layBeside_73 rfl (lv_at hl 2 rfl) ?_
        refine lv_dup hx hb dX10_layBeside_74 rfl ?_
        obtain ⟨v75, hv, hF⟩ := ob hF
        refine k_getI C0 M.1 hv fl_X10_372 dX10_layBeside_75 ?_
        refine lv_iconst (v := (1 : Int32)) hx hb dX10_layBeside_78 (by decide) ?_
        refine lv_iadd hx hb dX10_layBeside_79 ?_
        obtain ⟨S80, hv, hF⟩ := ob hF
        refine k_sI C0 M hv fl_X10_372 dX10_layBeside_80 (fun H locs M => ?_)
        refine lv_aload_n hx hb dX10_layBeside_83 rfl (lv_at hl 2 rfl) ?_
        refine lv_dup hx hb dX10_layBeside_84 rfl ?_
        obtain ⟨v85, hv, hF⟩ := ob hF
        refine k_getJ C0 M.1 hv fl_X10_375 dX10_layBeside_85 ?_
        refine lv_iload hx hb dX10_layBeside_88 (lv_at hl 1 rfl) ?_
        refine lv_iload hx hb dX10_layBeside_90 (lv_at hl 0 rfl) ?_
        refine lv_isub hx hb dX10_layBeside_92 ?_
        obtain ⟨v93, hcl, hF⟩ := ob hF
        refine go_SI (r_S (rest := [.long v85, .ref (ad x0)]) (As := [.int (v39 - v56)]) C0 cb_X10_195 (tX10_sizeOf l D cy ad hcl) (pre_S C0) hl dX10_layBeside_93 rfl (Nat.le_of_ble_eq_true rfl) ⟨rfl, rfl⟩ ⟨Nat.le_of_ble_eq_true rfl, Nat.le_of_ble_eq_true rfl⟩ ⟨Nat.le_of_ble_eq_true rfl, Nat.le_of_ble_eq_true rfl⟩ rfl) ?_
        refine lv_i2l (v := (v93.toInt64)) hx hb dX10_layBeside_96 rfl ?_
        refine lv_ladd hx hb dX10_layBeside_97 ?_
        obtain ⟨S98, hv, hF⟩ := ob hF
        refine k_sJ C0 M hv fl_X10_375 dX10_layBeside_98 (fun H locs M => ?_)
        refine lv_aload_n hx hb dX10_layBeside_101 rfl (lv_at hl 2 rfl) ?_
        refine lv_dup hx hb dX10_layBeside_102 rfl ?_
        obtain ⟨v103, hv, hF⟩ := ob hF
        refine k_getJ C0 M.1 hv fl_X10_379 dX10_layBeside_103 ?_
        refine lv_iload hx hb dX10_layBeside_106 (lv_at hl 1 rfl) ?_
        refine lv_iload hx hb dX10_layBeside_108 (lv_at hl 0 rfl) ?_
        refine lv_isub hx hb dX10_layBeside_110 ?_
        refine lv_i2l (v := ((v39 - v56).toInt64)) hx hb dX10_layBeside_111 rfl ?_
        refine lv_ladd hx hb dX10_layBeside_112 ?_
        obtain ⟨S113, hv, hF⟩ := ob hF
        refine k_sJ C0 M hv fl_X10_379 dX10_layBeside_113 (fun H locs M => ?_)
        exact wX10_layBeside_116 ad A C0 M hr hF (lv_sub hl [2, 3, 4, 5, 6] rfl) Kr Kh0
set_option maxHeartbeats 4000000 in
set_option maxRecDepth 100000 in
theorem tX10_layBeside (l : Launch) (D : va_G) (cy : Nat → ClassId) (ad : Nat → Nat) (A : Nat → Prop) {S S' : MS} {a0 : Nat} {a1 : Int32} {a2 : Int32} {a3 : Int32} (h : fX10_layBeside S a0 a1 a2 a3 = some S') : Met l yX10_layBeside [Cond.code yX10_layBeside cX10_layBeside 7 (none)] rmX10_layBeside (PcR D cy ad A S [.ref (ad a0), .int a1, .int a2, .int a3]) (QcM D cy ad A (m_n S) S' (none)) 0 0 A := by
  refine met_M (by decide +kernel) cw_X10_layBeside (Nat.le_of_ble_eq_true rfl) ?_
  intro p e s m args below meth c ls C0 M hr hin hl
  have hl : lv_has ls 7 [(0, .ref (ad a0)), (1, .int a1), (2, .int a2), (3, .int a3)] := hl
  have key := lim_walk (step := sX10_layBeside) (fun (q : (Nat × Int32 × Int32 × Int32 × Int32 × MS)) (r9 : MS) => ∀ (S' : MS), r9 = S' → ((∀ (y0 : Nat) (y1 : Int32) (y2 : Int32) (y3 : Int32) (y4 : Int32) (S2 : MS), q = (y0, y1, y2, y3, y4, S2) → ∀ (H1 : Heap) (locs1 : List Loc) (ls1 : Array Slot), ST D cy ad A s.heap (ZN (m_n S) s.heap.size) S2 H1 locs1 → lv_has ls1 7 [(0, .ref (ad y0)), (1, .int y1), (2, .int y2), (3, .int y3), (4, .int y4)] → W p l e rmX10_layBeside s m args below meth c H1 locs1 0 0 (MQ below (QcM D cy ad A (m_n S) S' (none)) args s 0 0 A) (F0 m 18 ls1 [])))) ?_
  · unfold fX10_layBeside at h
    cases hs0 : bX10_layBeside_0 S a0 a1 a2 a3 with
    | none => rw [hs0] at h; cases h
    | some out =>
      rw [hs0] at h
      refine wX10_layBeside_0 ad A C0 M hr hs0 hl (fun r9 hr9 => ?_) ?_
      · subst hr9; exact Option.some.inj h
      · intro y0 y1 y2 y3 y4 y5 hq; subst hq; exact (key _ _ h _ rfl) _ _ _ _ _ _ rfl
  · intro q r9 out hst hre hin9
    intro S' er; subst er
    refine ?_
    · intro y0 y1 y2 y3 y4 y5 hq H1 locs1 ls1 M hl
      subst hq
      exact wX10_layBeside_18 ad A C0 M hr hst hl hre (fun k0 k1 k2 k3 k4 k5 hk => (hin9 _ hk _ rfl) _ _ _ _ _ _ rfl)
set_option maxHeartbeats 4000000 in
set_option maxRecDepth 100000 in
theorem wX10_lost_0 {p : Program} {l : Launch} {e : Env} {s : State} {m : MethodId} {args : Array Value} {below : List Frame} {meth : Method} {c : Code} {D : va_G} {cy : Nat → ClassId} (ad : Nat → Nat) (A : Nat → Prop) {r : Int64} {ls : Array Slot} (C0 : CX p s m args meth c RX10 cX10_lost 0 D cy) (hr : meth.sig.returnType = some .long) (hF : bX10_lost_0 = some r) (hl : lv_has ls 0 []) : W p l e rmX10_lost s m args below meth c s.heap [] 0 0 (MQ below (QcS (some (.long r))) args s 0 0 (fun _ => False)) (F0 m 0 ls []) := by
  unfold bX10_lost_0 at hF
  obtain ⟨hx, hb, -, hown, -, hts, -⟩ := id C0
  refine lv_ldc2 (v := (-9223372036854775808 : Int64)) hx hb hown (hts _ (uw_of 1555 (by decide +kernel) rfl)) dX10_lost_0 ?_
  obtain rfl := (Option.some.inj hF)
  exact rt_SL C0 hr dX10_lost_3
set_option maxHeartbeats 4000000 in
set_option maxRecDepth 100000 in
theorem tX10_lost (l : Launch) (D : va_G) (cy : Nat → ClassId) (ad : Nat → Nat) {r : Int64} (h : fX10_lost = some r) : Met l yX10_lost [Cond.code yX10_lost cX10_lost 0 (some .long)] rmX10_lost (PcS D cy []) (QcS (some (.long r))) 0 0 (fun _ => False) := by
  refine met_S (by decide +kernel) cw_X10_lost (Nat.le_of_ble_eq_true rfl) ?_
  intro p e s m args below meth c ls C0 hr hl
  have hl : lv_has ls 0 [] := hl
  exact wX10_lost_0 ad (fun _ => False) C0 hr h hl
set_option maxHeartbeats 4000000 in
set_option maxRecDepth 100000 in
theorem wX10_beside_42 {p : Program} {l : Launch} {e : Env} {s : State} {m : MethodId} {args : Array Value} {below : List Frame} {meth : Method} {c : Code} {D : va_G} {cy : Nat → ClassId} (ad : Nat → Nat) (A : Nat → Prop) {S : MS} {S' : MS} {H : Heap} {locs : List Loc} {n0 : Nat} {r : Int64} {ls : Array Slot} (C0 : CX p s m args meth c RX10 cX10_beside 5 D cy) (M : ST D cy ad A s.heap (ZN n0 s.heap.size) S H locs) (hr : meth.sig.returnType = some .long) (hF : bX10_beside_42 S = some (r, S')) (hl : lv_has ls 5 []) : W p l e rmX10_beside s m args below meth c H locs 0 0 (MQ below (QcM D cy ad A n0 S' (some (.long r))) args s 0 0 A) (F0 m 42 ls []) := by
  unfold bX10_beside_42 at hF
  obtain ⟨hx, hb, -, hown, -, hts, -⟩ := id C0
  obtain ⟨v42, hcl, hF⟩ := ob hF
  refine go_SL (r_S (rest := []) (As := []) C0 cb_X10_149 (tX10_lost l D cy ad hcl) (pre_S C0) hl dX10_beside_42 rfl (Nat.le_of_ble_eq_true rfl) ⟨rfl, rfl⟩ ⟨Nat.le_of_ble_eq_true rfl, Nat.le_of_ble_eq_true rfl⟩ ⟨Nat.le_of_ble_eq_true rfl, Nat.le_of_ble_eq_true rfl⟩ rfl) ?_
  obtain ⟨rfl, rfl⟩ := Prod.mk.inj (Option.some.inj hF)
  exact rt_ML C0 M hr dX10_beside_45
set_option maxHeartbeats 4000000 in
set_option maxRecDepth 100000 in
theorem wX10_beside_87 {p : Program} {l : Launch} {e : Env} {s : State} {m : MethodId} {args : Array Value} {below : List Frame} {meth : Method} {c : Code} {D : va_G} {cy : Nat → ClassId} (ad : Nat → Nat) (A : Nat → Prop) {S : MS} {S' : MS} {H : Heap} {locs : List Loc} {n0 : Nat} {r : Int64} {ls : Array Slot} {z0 : Int64} (C0 : CX p s m args meth c RX10 cX10_beside 5 D cy) (M : ST D cy ad A s.heap (ZN n0 s.heap.size) S H locs) (hr : meth.sig.returnType = some .long) (hF : bX10_beside_87 S z0 = some (r, S')) (hl : lv_has ls 5 []) : W p l e rmX10_beside s m args below meth c H locs 0 0 (MQ below (QcM D cy ad A n0 S' (some (.long r))) args s 0 0 A) (F0 m 87 ls [.long z0]) := by
  unfold bX10_beside_87 at hF
  obtain ⟨hx, hb, -, hown, -, hts, -⟩ := id C0
  obtain ⟨rfl, rfl⟩ := Prod.mk.inj (Option.some.inj hF)
  exact rt_ML C0 M hr dX10_beside_87
set_option maxHeartbeats 4000000 in
set_option maxRecDepth 100000 in
theorem wX10_beside_0 {p : Program} {l : Launch} {e : Env} {s : State} {m : MethodId} {args : Array Value} {below : List Frame} {meth : Method} {c : Code} {D : va_G} {cy : Nat → ClassId} (ad : Nat → Nat) (A : Nat → Prop) {S : MS} {S' : MS} {H : Heap} {locs : List Loc} {n0 : Nat} {r : Int64} {ls : Array Slot} {x0 : Nat} {x1 : Int32} {x2 : Int32} {x3 : Int32} {x4 : Int32} (C0 : CX p s m args meth c RX10 cX10_beside 5 D cy) (M : ST D cy ad A s.heap (ZN n0 s.heap.size) S H locs) (hr : meth.sig.returnType = some .long) (hF : bX10_beside_0 S x0 x1 x2 x3 x4 = some (r, S')) (hl : lv_has ls 5 [(0, .ref (ad x0)), (1, .int x1), (2, .int x2), (3, .int x3), (4, .int x4)]) : W p l e rmX10_beside s m args below meth c H locs 0 0 (MQ below (QcM D cy ad A n0 S' (some (.long r))) args s 0 0 A) (F0 m 0 ls []) := by
  unfold bX10_beside_0 at hF
  obtain ⟨hx, hb, -, hown, -, hts, -⟩ := id C0
  refine lv_iload_n hx hb dX10_beside_0 rfl (lv_at hl 1 rfl) ?_
  refine lv_iload_n hx hb dX10_beside_1 rfl (lv_at hl 2 rfl) ?_
  obtain ⟨v2, hcl, hF⟩ := ob hF
  refine go_SI (r_S (rest := []) (As := [.int x1, .int x2]) C0 cb_X10_366 (tX10_isShift l D cy ad hcl) (pre_S C0) hl dX10_beside_2 rfl (Nat.le_of_ble_eq_true rfl) ⟨rfl, rfl⟩ ⟨Nat.le_of_ble_eq_true rfl, Nat.le_of_ble_eq_true rfl⟩ ⟨Nat.le_of_ble_eq_true rfl, Nat.le_of_ble_eq_true rfl⟩ rfl) ?_
  refine lv_if_eq (tgt := 42) hx hb dX10_beside_5 (by decide) (fun hc => ?_) (fun hc => ?_)
  · have hF := oi_t hc hF
    exact wX10_beside_42 ad A C0 M hr hF (lv_sub hl [] rfl)
  · have hF := oi_f hc hF
    refine lv_iload hx hb dX10_beside_8 (lv_at hl 4 rfl) ?_
    refine lv_i2l (v := (x4.toInt64)) hx hb dX10_beside_10 rfl ?_
    refine lv_lconst (v := (0 : Int64)) hx hb dX10_beside_11 (by decide) ?_
    refine lv_ldc2 (v := (2 : Int64)) hx hb hown (hts _ (uw_of 1250 (by decide +kernel) rfl)) dX10_beside_12 ?_
    obtain ⟨v15, hcl, hF⟩ := ob hF
    refine go_SI (r_S (rest := []) (As := [.long (x4.toInt64), .long (0 : Int64), .long (2 : Int64)]) C0 cb_X10_156 (tX10_in l D cy ad hcl) (pre_S C0) hl dX10_beside_15 rfl (Nat.le_of_ble_eq_true rfl) ⟨rfl, rfl⟩ ⟨Nat.le_of_ble_eq_true rfl, Nat.le_of_ble_eq_true rfl⟩ ⟨Nat.le_of_ble_eq_true rfl, Nat.le_of_ble_eq_true rfl⟩ rfl) ?_
    refine lv_if_eq (tgt := 42) hx hb dX10_beside_18 (by decide) (fun hc => ?_) (fun hc => ?_)
    · have hF := oi_t hc hF
      exact wX10_beside_42 ad A C0 M hr hF (lv_sub hl [] rfl)
    · have hF := oi_f hc hF
      refine lv_iload_n hx hb dX10_beside_21 rfl (lv_at hl 3 rfl) ?_
      refine lv_i2l (v := (x3.toInt64)) hx hb dX10_beside_22 rfl ?_
      refine lv_lconst (v := (0 : Int64)) hx hb dX10_beside_23 (by decide) ?_
      refine lv_ldc2 (v := (3 : Int64)) hx hb hown (hts _ (uw_of 1287 (by decide +kernel) rfl)) dX10_beside_24 ?_
      obtain ⟨v27, hcl, hF⟩ := ob hF
      refine go_SI (r_S (rest := []) (As := [.long (x3.toInt64), .long (0 : Int64), .long (3 : Int64)]) C0 cb_X10_156 (tX10_in l D cy ad hcl) (pre_S C0) hl dX10_beside_27 rfl (Nat.le_of_ble_eq_true rfl) ⟨rfl, rfl⟩ ⟨Nat.le_of_ble_eq_true rfl, Nat.le_of_ble_eq_true rfl⟩ ⟨Nat.le_of_ble_eq_true rfl, Nat.le_of_ble_eq_true rfl⟩ rfl) ?_
      refine lv_if_eq (tgt := 42) hx hb dX10_beside_30 (by decide) (fun hc => ?_) (fun hc => ?_)
      · have hF := oi_t hc hF
        exact wX10_beside_42 ad A C0 M hr hF (lv_sub hl [] rfl)
      · have hF := oi_f hc hF
        refine lv_aload_n hx hb dX10_beside_33 rfl (lv_at hl 0 rfl) ?_
        obtain ⟨v34, hv, hF⟩ := ob hF
        refine k_getP C0 M.1 hv fl_X10_98 dX10_beside_34 ?_
        refine lv_iload_n hx hb dX10_beside_37 rfl (lv_at hl 3 rfl) ?_
        obtain ⟨v38, hv, hF⟩ := ob hF
        refine k_ldZ C0 M.1 hv dX10_beside_38 ?_
        refine lv_if_ne (tgt := 46) hx hb dX10_beside_39 (by decide) (fun hc => ?_) (fun hc => ?_)
        · have hF := oi_f hc hF
          refine lv_aload_n hx hb dX10_beside_46 rfl (lv_at hl 0 rfl) ?_
          obtain ⟨_, hrec, hF⟩ := ob hF
          obtain ⟨S47, hcl, hF⟩ := ob hF
          refine go_MV (r_V (rest := []) (As := []) C0 cb_X10_237 M.1 hrec (tX10_layChart l D cy ad A hcl) (pre_R C0 M.1) hl dX10_beside_47 rfl (Nat.le_of_ble_eq_true rfl) ⟨rfl, rfl⟩ ⟨Nat.le_of_ble_eq_true rfl, Nat.le_of_ble_eq_true rfl⟩ ⟨Nat.le_of_ble_eq_true rfl, Nat.le_of_ble_eq_true rfl⟩ rfl) M (fun H locs M => ?_)
          refine lv_aload_n hx hb dX10_beside_50 rfl (lv_at hl 0 rfl) ?_
          refine lv_iload_n hx hb dX10_beside_51 rfl (lv_at hl 1 rfl) ?_
          refine lv_iload_n hx hb dX10_beside_52 rfl (lv_at hl 2 rfl) ?_
          refine lv_iload_n hx hb dX10_beside_53 rfl (lv_at hl 3 rfl) ?_
          obtain ⟨_, hrec, hF⟩ := ob hF
          obtain ⟨S54, hcl, hF⟩ := ob hF
          refine go_MV (r_V (rest := []) (As := [.int x1, .int x2, .int x3]) C0 cb_X10_382 M.1 hrec (tX10_layBeside l D cy ad A hcl) (pre_R C0 M.1) hl dX10_beside_54 rfl (Nat.le_of_ble_eq_true rfl) ⟨rfl, rfl⟩ ⟨Nat.le_of_ble_eq_true rfl, Nat.le_of_ble_eq_true rfl⟩ ⟨Nat.le_of_ble_eq_true rfl, Nat.le_of_ble_eq_true rfl⟩ rfl) M (fun H locs M => ?_)
          refine lv_iload hx hb dX10_beside_57 (lv_at hl 4 rfl) ?_
          refine lv_if_ne (tgt := 70) hx hb dX10_beside_59 (by decide) (fun hc => ?_) (fun hc => ?_)
          · have hF := oi_f hc hF
            refine lv_iload hx hb dX10_beside_70 (lv_at hl 4 rfl) ?_
            refine lv_iconst (v := (1 : Int32)) hx hb dX10_beside_72 (by decide) ?_
            refine lv_icmp_ne (tgt := 83) hx hb dX10_beside_73 (by decide) (fun hc => ?_) (fun hc => ?_)
            · have hF := oi_f hc hF
              refine lv_aload_n hx hb dX10_beside_83 rfl (lv_at hl 0 rfl) ?_
              obtain ⟨v84, hv, hF⟩ := ob hF
              refine k_getJ C0 M.1 hv fl_X10_379 dX10_beside_84 ?_
              exact wX10_beside_87 ad A C0 M hr hF (lv_sub hl [] rfl)
            · have hF := oi_t hc hF
              refine lv_aload_n hx hb dX10_beside_76 rfl (lv_at hl 0 rfl) ?_
              obtain ⟨v77, hv, hF⟩ := ob hF
              refine k_getJ C0 M.1 hv fl_X10_375 dX10_beside_77 ?_
              refine lv_goto (tgt := 87) hx hb dX10_beside_80 (by decide) ?_
              exact wX10_beside_87 ad A C0 M hr hF (lv_sub hl [] rfl)
          · have hF := oi_t hc hF
            refine lv_aload_n hx hb dX10_beside_62 rfl (lv_at hl 0 rfl) ?_
            obtain ⟨v63, hv, hF⟩ := ob hF
            refine k_getI C0 M.1 hv fl_X10_372 dX10_beside_63 ?_
            refine lv_i2l (v := (v63.toInt64)) hx hb dX10_beside_66 rfl ?_
            refine lv_goto (tgt := 87) hx hb dX10_beside_67 (by decide) ?_
            exact wX10_beside_87 ad A C0 M hr hF (lv_sub hl [] rfl)
        · have hF := oi_t hc hF
          exact wX10_beside_42 ad A C0 M hr hF (lv_sub hl [] rfl)
set_option maxHeartbeats 4000000 in
set_option maxRecDepth 100000 in
theorem tX10_beside (l : Launch) (D : va_G) (cy : Nat → ClassId) (ad : Nat → Nat) (A : Nat → Prop) {S S' : MS} {a0 : Nat} {a1 : Int32} {a2 : Int32} {a3 : Int32} {a4 : Int32} {r : Int64} (h : fX10_beside S a0 a1 a2 a3 a4 = some (r, S')) : Met l yX10_beside [Cond.code yX10_beside cX10_beside 5 (some .long)] rmX10_beside (PcR D cy ad A S [.ref (ad a0), .int a1, .int a2, .int a3, .int a4]) (QcM D cy ad A (m_n S) S' (some (.long r))) 0 0 A := by
  refine met_M (by decide +kernel) cw_X10_beside (Nat.le_of_ble_eq_true rfl) ?_
  intro p e s m args below meth c ls C0 M hr hin hl
  have hl : lv_has ls 5 [(0, .ref (ad a0)), (1, .int a1), (2, .int a2), (3, .int a3), (4, .int a4)] := hl
  exact wX10_beside_0 ad A C0 M hr h hl
set_option maxHeartbeats 4000000 in
set_option maxRecDepth 100000 in
theorem wX10_failedLong_0 {p : Program} {l : Launch} {e : Env} {s : State} {m : MethodId} {args : Array Value} {below : List Frame} {meth : Method} {c : Code} {D : va_G} {cy : Nat → ClassId} (ad : Nat → Nat) (A : Nat → Prop) {S : MS} {S' : MS} {H : Heap} {locs : List Loc} {n0 : Nat} {r : Int64} {ls : Array Slot} {x0 : Nat} {x1 : Int32} (C0 : CX p s m args meth c RX10 cX10_failedLong 2 D cy) (M : ST D cy ad A s.heap (ZN n0 s.heap.size) S H locs) (hr : meth.sig.returnType = some .long) (hF : bX10_failedLong_0 S x0 x1 = some (r, S')) (hl : lv_has ls 2 [(0, .ref (ad x0)), (1, .int x1)]) : W p l e rmX10_failedLong s m args below meth c H locs 0 0 (MQ below (QcM D cy ad A n0 S' (some (.long r))) args s 0 0 A) (F0 m 0 ls []) := by
  unfold bX10_failedLong_0 at hF
  obtain ⟨hx, hb, -, hown, -, hts, -⟩ := id C0
  refine lv_aload_n hx hb dX10_failedLong_0 rfl (lv_at hl 0 rfl) ?_
  refine lv_iload_n hx hb dX10_failedLong_1 rfl (lv_at hl 1 rfl) ?_
  obtain ⟨S2, hv, hF⟩ := ob hF
  refine k_sI C0 M hv fl_X10_146 dX10_failedLong_2 (fun H locs M => ?_)
  obtain ⟨v5, hcl, hF⟩ := ob hF
  refine go_SL (r_S (rest := []) (As := []) C0 cb_X10_149 (tX10_lost l D cy ad hcl) (pre_S C0) hl dX10_failedLong_5 rfl (Nat.le_of_ble_eq_true rfl) ⟨rfl, rfl⟩ ⟨Nat.le_of_ble_eq_true rfl, Nat.le_of_ble_eq_true rfl⟩ ⟨Nat.le_of_ble_eq_true rfl, Nat.le_of_ble_eq_true rfl⟩ rfl) ?_
  obtain ⟨rfl, rfl⟩ := Prod.mk.inj (Option.some.inj hF)
  exact rt_ML C0 M hr dX10_failedLong_8
set_option maxHeartbeats 4000000 in
set_option maxRecDepth 100000 in
theorem tX10_failedLong (l : Launch) (D : va_G) (cy : Nat → ClassId) (ad : Nat → Nat) (A : Nat → Prop) {S S' : MS} {a0 : Nat} {a1 : Int32} {r : Int64} (h : fX10_failedLong S a0 a1 = some (r, S')) : Met l yX10_failedLong [Cond.code yX10_failedLong cX10_failedLong 2 (some .long)] rmX10_failedLong (PcR D cy ad A S [.ref (ad a0), .int a1]) (QcM D cy ad A (m_n S) S' (some (.long r))) 0 0 A := by
  refine met_M (by decide +kernel) cw_X10_failedLong (Nat.le_of_ble_eq_true rfl) ?_
  intro p e s m args below meth c ls C0 M hr hin hl
  have hl : lv_has ls 2 [(0, .ref (ad a0)), (1, .int a1)] := hl
  exact wX10_failedLong_0 ad A C0 M hr h hl
set_option maxHeartbeats 4000000 in
set_option maxRecDepth 100000 in
theorem wX10_noCell_36 {p : Program} {l : Launch} {e : Env} {s : State} {m : MethodId} {args : Array Value} {below : List Frame} {meth : Method} {c : Code} {D : va_G} {cy : Nat → ClassId} (ad : Nat → Nat) (A : Nat → Prop) {S : MS} {r : Int32} {ls : Array Slot} {z0 : Int32} (C0 : CX p s m args meth c RX10 cX10_noCell 3 D cy) (M : MW D cy ad A S s.heap) (hr : meth.sig.returnType = some .int) (hF : bX10_noCell_36 S z0 = some r) (hl : lv_has ls 3 []) : W p l e rmX10_noCell s m args below meth c s.heap [] 0 0 (MQ below (QcS (some (.int r))) args s 0 0 (fun _ => False)) (F0 m 36 ls [.int z0]) := by
  unfold bX10_noCell_36 at hF
  obtain ⟨hx, hb, -, hown, -, hts, -⟩ := id C0
  obtain rfl := (Option.some.inj hF)
  exact rt_SI C0 hr dX10_noCell_36
set_option maxHeartbeats 4000000 in
set_option maxRecDepth 100000 in
theorem wX10_noCell_0 {p : Program} {l : Launch} {e : Env} {s : State} {m : MethodId} {args : Array Value} {below : List Frame} {meth : Method} {c : Code} {D : va_G} {cy : Nat → ClassId} (ad : Nat → Nat) (A : Nat → Prop) {S : MS} {r : Int32} {ls : Array Slot} {x0 : Nat} {x1 : Int32} {x2 : Int32} (C0 : CX p s m args meth c RX10 cX10_noCell 3 D cy) (M : MW D cy ad A S s.heap) (hr : meth.sig.returnType = some .int) (hF : bX10_noCell_0 S x0 x1 x2 = some r) (hl : lv_has ls 3 [(0, .ref (ad x0)), (1, .int x1), (2, .int x2)]) : W p l e rmX10_noCell s m args below meth c s.heap [] 0 0 (MQ below (QcS (some (.int r))) args s 0 0 (fun _ => False)) (F0 m 0 ls []) := by
  unfold bX10_noCell_0 at hF
  obtain ⟨hx, hb, -, hown, -, hts, -⟩ := id C0
  refine lv_aload_n hx hb dX10_noCell_0 rfl (lv_at hl 0 rfl) ?_
  obtain ⟨v1, hv, hF⟩ := ob hF
  refine k_getP C0 M hv fl_X10_125 dX10_noCell_1 ?_
  refine lv_iload_n hx hb dX10_noCell_4 rfl (lv_at hl 1 rfl) ?_
  obtain ⟨v5, hv, hF⟩ := ob hF
  refine k_ld C0 M hv dX10_noCell_5 ?_
  refine lv_if_ge (tgt := 13) hx hb dX10_noCell_6 (by decide) (fun hc => ?_) (fun hc => ?_)
  · have hF := oi_t hc hF
    refine lv_iload_n hx hb dX10_noCell_13 rfl (lv_at hl 2 rfl) ?_
    refine lv_i2l (v := (x2.toInt64)) hx hb dX10_noCell_14 rfl ?_
    refine lv_lconst (v := (0 : Int64)) hx hb dX10_noCell_15 (by decide) ?_
    refine lv_aload_n hx hb dX10_noCell_16 rfl (lv_at hl 0 rfl) ?_
    obtain ⟨v17, hv, hF⟩ := ob hF
    refine k_getP C0 M hv fl_X10_125 dX10_noCell_17 ?_
    refine lv_iload_n hx hb dX10_noCell_20 rfl (lv_at hl 1 rfl) ?_
    obtain ⟨v21, hv, hF⟩ := ob hF
    refine k_ld C0 M hv dX10_noCell_21 ?_
    refine lv_i2l (v := (v21.toInt64)) hx hb dX10_noCell_22 rfl ?_
    refine lv_lconst (v := (1 : Int64)) hx hb dX10_noCell_23 (by decide) ?_
    refine lv_lsub hx hb dX10_noCell_24 ?_
    obtain ⟨v25, hcl, hF⟩ := ob hF
    refine go_SI (r_S (rest := []) (As := [.long (x2.toInt64), .long (0 : Int64), .long ((v21.toInt64) - (1 : Int64))]) C0 cb_X10_156 (tX10_in l D cy ad hcl) (pre_S C0) hl dX10_noCell_25 rfl (Nat.le_of_ble_eq_true rfl) ⟨rfl, rfl⟩ ⟨Nat.le_of_ble_eq_true rfl, Nat.le_of_ble_eq_true rfl⟩ ⟨Nat.le_of_ble_eq_true rfl, Nat.le_of_ble_eq_true rfl⟩ rfl) ?_
    refine lv_if_eq (tgt := 35) hx hb dX10_noCell_28 (by decide) (fun hc => ?_) (fun hc => ?_)
    · have hF := oi_t hc hF
      refine lv_iconst (v := (3 : Int32)) hx hb dX10_noCell_35 (by decide) ?_
      exact wX10_noCell_36 ad A C0 M hr hF (lv_sub hl [] rfl)
    · have hF := oi_f hc hF
      refine lv_iconst (v := (0 : Int32)) hx hb dX10_noCell_31 (by decide) ?_
      refine lv_goto (tgt := 36) hx hb dX10_noCell_32 (by decide) ?_
      exact wX10_noCell_36 ad A C0 M hr hF (lv_sub hl [] rfl)
  · have hF := oi_f hc hF
    refine lv_iconst (v := (1 : Int32)) hx hb dX10_noCell_9 (by decide) ?_
    refine lv_goto (tgt := 36) hx hb dX10_noCell_10 (by decide) ?_
    exact wX10_noCell_36 ad A C0 M hr hF (lv_sub hl [] rfl)
set_option maxHeartbeats 4000000 in
set_option maxRecDepth 100000 in
theorem tX10_noCell (l : Launch) (D : va_G) (cy : Nat → ClassId) (ad : Nat → Nat) (A : Nat → Prop) {S : MS} {a0 : Nat} {a1 : Int32} {a2 : Int32} {r : Int32} (h : fX10_noCell S a0 a1 a2 = some r) : Met l yX10_noCell [Cond.code yX10_noCell cX10_noCell 3 (some .int)] rmX10_noCell (PcR D cy ad A S [.ref (ad a0), .int a1, .int a2]) (QcS (some (.int r))) 0 0 (fun _ => False) := by
  refine met_R (by decide +kernel) cw_X10_noCell (Nat.le_of_ble_eq_true rfl) ?_
  intro p e s m args below meth c ls C0 M hr hl
  have hl : lv_has ls 3 [(0, .ref (ad a0)), (1, .int a1), (2, .int a2)] := hl
  exact wX10_noCell_0 ad A C0 M hr h hl
set_option maxHeartbeats 4000000 in
set_option maxRecDepth 100000 in
theorem wX10_noSheet_17 {p : Program} {l : Launch} {e : Env} {s : State} {m : MethodId} {args : Array Value} {below : List Frame} {meth : Method} {c : Code} {D : va_G} {cy : Nat → ClassId} (ad : Nat → Nat) (A : Nat → Prop) {r : Int32} {ls : Array Slot} {z0 : Int32} (C0 : CX p s m args meth c RX10 cX10_noSheet 1 D cy) (hr : meth.sig.returnType = some .boolean) (hF : bX10_noSheet_17 z0 = some r) (hl : lv_has ls 1 []) : W p l e rmX10_noSheet s m args below meth c s.heap [] 0 0 (MQ below (QcS (some (.int r))) args s 0 0 (fun _ => False)) (F0 m 17 ls [.int z0]) := by
  unfold bX10_noSheet_17 at hF
  obtain ⟨hx, hb, -, hown, -, hts, -⟩ := id C0
  obtain ⟨z17, hz, hF⟩ := ob hF
  have hz2 := (o_if hz).2
  refine vtopi hz2 ?_
  rw [hz2] at hz
  obtain rfl := (Option.some.inj hF)
  exact rt_SZ C0 hr hz dX10_noSheet_17
set_option maxHeartbeats 4000000 in
set_option maxRecDepth 100000 in
theorem wX10_noSheet_0 {p : Program} {l : Launch} {e : Env} {s : State} {m : MethodId} {args : Array Value} {below : List Frame} {meth : Method} {c : Code} {D : va_G} {cy : Nat → ClassId} (ad : Nat → Nat) (A : Nat → Prop) {r : Int32} {ls : Array Slot} {x0 : Int32} (C0 : CX p s m args meth c RX10 cX10_noSheet 1 D cy) (hr : meth.sig.returnType = some .boolean) (hF : bX10_noSheet_0 x0 = some r) (hl : lv_has ls 1 [(0, .int x0)]) : W p l e rmX10_noSheet s m args below meth c s.heap [] 0 0 (MQ below (QcS (some (.int r))) args s 0 0 (fun _ => False)) (F0 m 0 ls []) := by
  unfold bX10_noSheet_0 at hF
  obtain ⟨hx, hb, -, hown, -, hts, -⟩ := id C0
  refine lv_iload_n hx hb dX10_noSheet_0 rfl (lv_at hl 0 rfl) ?_
  refine lv_i2l (v := (x0.toInt64)) hx hb dX10_noSheet_1 rfl ?_
  refine lv_lconst (v := (0 : Int64)) hx hb dX10_noSheet_2 (by decide) ?_
  refine lv_ldc2 (v := (3 : Int64)) hx hb hown (hts _ (uw_of 1287 (by decide +kernel) rfl)) dX10_noSheet_3 ?_
  obtain ⟨v6, hcl, hF⟩ := ob hF
  refine go_SI (r_S (rest := []) (As := [.long (x0.toInt64), .long (0 : Int64), .long (3 : Int64)]) C0 cb_X10_156 (tX10_in l D cy ad hcl) (pre_S C0) hl dX10_noSheet_6 rfl (Nat.le_of_ble_eq_true rfl) ⟨rfl, rfl⟩ ⟨Nat.le_of_ble_eq_true rfl, Nat.le_of_ble_eq_true rfl⟩ ⟨Nat.le_of_ble_eq_true rfl, Nat.le_of_ble_eq_true rfl⟩ rfl) ?_
  refine lv_if_ne (tgt := 16) hx hb dX10_noSheet_9 (by decide) (fun hc => ?_) (fun hc => ?_)
  · have hF := oi_f hc hF
    refine lv_iconst (v := (0 : Int32)) hx hb dX10_noSheet_16 (by decide) ?_
    exact wX10_noSheet_17 ad A C0 hr hF (lv_sub hl [] rfl)
  · have hF := oi_t hc hF
    refine lv_iconst (v := (1 : Int32)) hx hb dX10_noSheet_12 (by decide) ?_
    refine lv_goto (tgt := 17) hx hb dX10_noSheet_13 (by decide) ?_
    exact wX10_noSheet_17 ad A C0 hr hF (lv_sub hl [] rfl)
set_option maxHeartbeats 4000000 in
set_option maxRecDepth 100000 in
theorem tX10_noSheet (l : Launch) (D : va_G) (cy : Nat → ClassId) (ad : Nat → Nat) {a0 : Int32} {r : Int32} (h : fX10_noSheet a0 = some r) : Met l yX10_noSheet [Cond.code yX10_noSheet cX10_noSheet 1 (some .boolean)] rmX10_noSheet (PcS D cy [.int a0]) (QcS (some (.int r))) 0 0 (fun _ => False) := by
  refine met_S (by decide +kernel) cw_X10_noSheet (Nat.le_of_ble_eq_true rfl) ?_
  intro p e s m args below meth c ls C0 hr hl
  have hl : lv_has ls 1 [(0, .int a0)] := hl
  exact wX10_noSheet_0 ad (fun _ => False) C0 hr h hl
set_option maxHeartbeats 4000000 in
set_option maxRecDepth 100000 in
theorem wX10_cell_24 {p : Program} {l : Launch} {e : Env} {s : State} {m : MethodId} {args : Array Value} {below : List Frame} {meth : Method} {c : Code} {D : va_G} {cy : Nat → ClassId} (ad : Nat → Nat) (A : Nat → Prop) {S : MS} {S' : MS} {H : Heap} {locs : List Loc} {n0 : Nat} {r : Int64} {ls : Array Slot} (C0 : CX p s m args meth c RX10 cX10_cell 4 D cy) (M : ST D cy ad A s.heap (ZN n0 s.heap.size) S H locs) (hr : meth.sig.returnType = some .long) (hF : bX10_cell_24 S = some (r, S')) (hl : lv_has ls 4 []) : W p l e rmX10_cell s m args below meth c H locs 0 0 (MQ below (QcM D cy ad A n0 S' (some (.long r))) args s 0 0 A) (F0 m 24 ls []) := by
  unfold bX10_cell_24 at hF
  obtain ⟨hx, hb, -, hown, -, hts, -⟩ := id C0
  obtain ⟨v24, hcl, hF⟩ := ob hF
  refine go_SL (r_S (rest := []) (As := []) C0 cb_X10_149 (tX10_lost l D cy ad hcl) (pre_S C0) hl dX10_cell_24 rfl (Nat.le_of_ble_eq_true rfl) ⟨rfl, rfl⟩ ⟨Nat.le_of_ble_eq_true rfl, Nat.le_of_ble_eq_true rfl⟩ ⟨Nat.le_of_ble_eq_true rfl, Nat.le_of_ble_eq_true rfl⟩ rfl) ?_
  obtain ⟨rfl, rfl⟩ := Prod.mk.inj (Option.some.inj hF)
  exact rt_ML C0 M hr dX10_cell_27
set_option maxHeartbeats 4000000 in
set_option maxRecDepth 100000 in
theorem wX10_cell_87 {p : Program} {l : Launch} {e : Env} {s : State} {m : MethodId} {args : Array Value} {below : List Frame} {meth : Method} {c : Code} {D : va_G} {cy : Nat → ClassId} (ad : Nat → Nat) (A : Nat → Prop) {S : MS} {S' : MS} {H : Heap} {locs : List Loc} {n0 : Nat} {r : Int64} {ls : Array Slot} {z0 : Int64} (C0 : CX p s m args meth c RX10 cX10_cell 4 D cy) (M : ST D cy ad A s.heap (ZN n0 s.heap.size) S H locs) (hr : meth.sig.returnType = some .long) (hF : bX10_cell_87 S z0 = some (r, S')) (hl : lv_has ls 4 []) : W p l e rmX10_cell s m args below meth c H locs 0 0 (MQ below (QcM D cy ad A n0 S' (some (.long r))) args s 0 0 A) (F0 m 87 ls [.long z0]) := by
  unfold bX10_cell_87 at hF
  obtain ⟨hx, hb, -, hown, -, hts, -⟩ := id C0
  obtain ⟨rfl, rfl⟩ := Prod.mk.inj (Option.some.inj hF)
  exact rt_ML C0 M hr dX10_cell_87
set_option maxHeartbeats 4000000 in
set_option maxRecDepth 100000 in
theorem wX10_cell_53 {p : Program} {l : Launch} {e : Env} {s : State} {m : MethodId} {args : Array Value} {below : List Frame} {meth : Method} {c : Code} {D : va_G} {cy : Nat → ClassId} (ad : Nat → Nat) (A : Nat → Prop) {S : MS} {S' : MS} {H : Heap} {locs : List Loc} {n0 : Nat} {r : Int64} {ls : Array Slot} {x0 : Nat} {x1 : Int32} {x2 : Int32} (C0 : CX p s m args meth c RX10 cX10_cell 4 D cy) (M : ST D cy ad A s.heap (ZN n0 s.heap.size) S H locs) (hr : meth.sig.returnType = some .long) (hF : bX10_cell_53 S x0 x1 x2 = some (r, S')) (hl : lv_has ls 4 [(0, .ref (ad x0)), (1, .int x1), (2, .int x2)]) : W p l e rmX10_cell s m args below meth c H locs 0 0 (MQ below (QcM D cy ad A n0 S' (some (.long r))) args s 0 0 A) (F0 m 53 ls []) := by
  unfold bX10_cell_53 at hF
  obtain ⟨hx, hb, -, hown, -, hts, -⟩ := id C0
  refine lv_aload_n hx hb dX10_cell_53 rfl (lv_at hl 0 rfl) ?_
  refine lv_iload_n hx hb dX10_cell_54 rfl (lv_at hl 1 rfl) ?_
  refine lv_iload_n hx hb dX10_cell_55 rfl (lv_at hl 2 rfl) ?_
  obtain ⟨_, hrec, hF⟩ := ob hF
  obtain ⟨v56, hcl, hF⟩ := ob hF
  refine go_SI (r_V (rest := []) (As := [.int x1, .int x2]) C0 cb_X10_411 M.1 hrec (tX10_noCell l D cy ad A hcl) (pre_R C0 M.1) hl dX10_cell_56 rfl (Nat.le_of_ble_eq_true rfl) ⟨rfl, rfl⟩ ⟨Nat.le_of_ble_eq_true rfl, Nat.le_of_ble_eq_true rfl⟩ ⟨Nat.le_of_ble_eq_true rfl, Nat.le_of_ble_eq_true rfl⟩ rfl) ?_
  refine lv_if_le (tgt := 75) hx hb dX10_cell_59 (by decide) (fun hc => ?_) (fun hc => ?_)
  · have hF := oi_t hc hF
    refine lv_aload_n hx hb dX10_cell_75 rfl (lv_at hl 0 rfl) ?_
    obtain ⟨v76, hv, hF⟩ := ob hF
    refine k_getP C0 M.1 hv fl_X10_131 dX10_cell_76 ?_
    refine lv_bipush (v := (60 : Int32)) hx hb dX10_cell_79 (by decide) ?_
    refine lv_iload_n hx hb dX10_cell_81 rfl (lv_at hl 1 rfl) ?_
    refine lv_imul hx hb dX10_cell_82 ?_
    refine lv_iload_n hx hb dX10_cell_83 rfl (lv_at hl 2 rfl) ?_
    refine lv_iadd hx hb dX10_cell_84 ?_
    obtain ⟨v85, hv, hF⟩ := ob hF
    refine k_ld C0 M.1 hv dX10_cell_85 ?_
    refine lv_i2l (v := (v85.toInt64)) hx hb dX10_cell_86 rfl ?_
    exact wX10_cell_87 ad A C0 M hr hF (lv_sub hl [] rfl)
  · have hF := oi_f hc hF
    refine lv_aload_n hx hb dX10_cell_62 rfl (lv_at hl 0 rfl) ?_
    refine lv_aload_n hx hb dX10_cell_63 rfl (lv_at hl 0 rfl) ?_
    refine lv_iload_n hx hb dX10_cell_64 rfl (lv_at hl 1 rfl) ?_
    refine lv_iload_n hx hb dX10_cell_65 rfl (lv_at hl 2 rfl) ?_
    obtain ⟨_, hrec, hF⟩ := ob hF
    obtain ⟨v66, hcl, hF⟩ := ob hF
    refine go_SI (r_V (rest := [.ref (ad x0)]) (As := [.int x1, .int x2]) C0 cb_X10_411 M.1 hrec (tX10_noCell l D cy ad A hcl) (pre_R C0 M.1) hl dX10_cell_66 rfl (Nat.le_of_ble_eq_true rfl) ⟨rfl, rfl⟩ ⟨Nat.le_of_ble_eq_true rfl, Nat.le_of_ble_eq_true rfl⟩ ⟨Nat.le_of_ble_eq_true rfl, Nat.le_of_ble_eq_true rfl⟩ rfl) ?_
    obtain ⟨_, hrec, hF⟩ := ob hF
    obtain ⟨v69, S69, hcl, hF⟩ := ob2 hF
    refine go_ML (r_V (rest := []) (As := [.int v66]) C0 cb_X10_414 M.1 hrec (tX10_failedLong l D cy ad A hcl) (pre_R C0 M.1) hl dX10_cell_69 rfl (Nat.le_of_ble_eq_true rfl) ⟨rfl, rfl⟩ ⟨Nat.le_of_ble_eq_true rfl, Nat.le_of_ble_eq_true rfl⟩ ⟨Nat.le_of_ble_eq_true rfl, Nat.le_of_ble_eq_true rfl⟩ rfl) M (fun H locs M => ?_)
    refine lv_goto (tgt := 87) hx hb dX10_cell_72 (by decide) ?_
    exact wX10_cell_87 ad A C0 M hr hF (lv_sub hl [] rfl)
set_option maxHeartbeats 4000000 in
set_option maxRecDepth 100000 in
theorem wX10_cell_0 {p : Program} {l : Launch} {e : Env} {s : State} {m : MethodId} {args : Array Value} {below : List Frame} {meth : Method} {c : Code} {D : va_G} {cy : Nat → ClassId} (ad : Nat → Nat) (A : Nat → Prop) {S : MS} {S' : MS} {H : Heap} {locs : List Loc} {n0 : Nat} {r : Int64} {ls : Array Slot} {x0 : Nat} {x1 : Int32} {x2 : Int32} {x3 : Int32} (C0 : CX p s m args meth c RX10 cX10_cell 4 D cy) (M : ST D cy ad A s.heap (ZN n0 s.heap.size) S H locs) (hr : meth.sig.returnType = some .long) (hF : bX10_cell_0 S x0 x1 x2 x3 = some (r, S')) (hl : lv_has ls 4 [(0, .ref (ad x0)), (1, .int x1), (2, .int x2), (3, .int x3)]) : W p l e rmX10_cell s m args below meth c H locs 0 0 (MQ below (QcM D cy ad A n0 S' (some (.long r))) args s 0 0 A) (F0 m 0 ls []) := by
  unfold bX10_cell_0 at hF
  obtain ⟨hx, hb, -, hown, -, hts, -⟩ := id C0
  refine lv_aload_n hx hb dX10_cell_0 rfl (lv_at hl 0 rfl) ?_
  refine lv_iconst (v := (0 : Int32)) hx hb dX10_cell_1 (by decide) ?_
  obtain ⟨S2, hv, hF⟩ := ob hF
  refine k_sI C0 M hv fl_X10_146 dX10_cell_2 (fun H locs M => ?_)
  refine lv_iload_n hx hb dX10_cell_5 rfl (lv_at hl 1 rfl) ?_
  obtain ⟨v6, hcl, hF⟩ := ob hF
  refine go_SI (r_S (rest := []) (As := [.int x1]) C0 cb_X10_212 (tX10_noSheet l D cy ad hcl) (pre_S C0) hl dX10_cell_6 rfl (Nat.le_of_ble_eq_true rfl) ⟨rfl, rfl⟩ ⟨Nat.le_of_ble_eq_true rfl, Nat.le_of_ble_eq_true rfl⟩ ⟨Nat.le_of_ble_eq_true rfl, Nat.le_of_ble_eq_true rfl⟩ rfl) ?_
  refine lv_if_ne (tgt := 24) hx hb dX10_cell_9 (by decide) (fun hc => ?_) (fun hc => ?_)
  · have hF := oi_f hc hF
    exact wX10_cell_24 ad A C0 M hr hF (lv_sub hl [] rfl)
  · have hF := oi_t hc hF
    refine lv_iload_n hx hb dX10_cell_12 rfl (lv_at hl 3 rfl) ?_
    refine lv_i2l (v := (x3.toInt64)) hx hb dX10_cell_13 rfl ?_
    refine lv_lconst (v := (0 : Int64)) hx hb dX10_cell_14 (by decide) ?_
    refine lv_ldc2 (v := (2 : Int64)) hx hb hown (hts _ (uw_of 1250 (by decide +kernel) rfl)) dX10_cell_15 ?_
    obtain ⟨v18, hcl, hF⟩ := ob hF
    refine go_SI (r_S (rest := []) (As := [.long (x3.toInt64), .long (0 : Int64), .long (2 : Int64)]) C0 cb_X10_156 (tX10_in l D cy ad hcl) (pre_S C0) hl dX10_cell_18 rfl (Nat.le_of_ble_eq_true rfl) ⟨rfl, rfl⟩ ⟨Nat.le_of_ble_eq_true rfl, Nat.le_of_ble_eq_true rfl⟩ ⟨Nat.le_of_ble_eq_true rfl, Nat.le_of_ble_eq_true rfl⟩ rfl) ?_
    refine lv_if_ne (tgt := 28) hx hb dX10_cell_21 (by decide) (fun hc => ?_) (fun hc => ?_)
    · have hF := oi_f hc hF
      refine lv_aload_n hx hb dX10_cell_28 rfl (lv_at hl 0 rfl) ?_
      obtain ⟨v29, hv, hF⟩ := ob hF
      refine k_getP C0 M.1 hv fl_X10_125 dX10_cell_29 ?_
      refine lv_iload_n hx hb dX10_cell_32 rfl (lv_at hl 1 rfl) ?_
      obtain ⟨v33, hv, hF⟩ := ob hF
      refine k_ld C0 M.1 hv dX10_cell_33 ?_
      refine lv_if_lt (tgt := 53) hx hb dX10_cell_34 (by decide) (fun hc => ?_) (fun hc => ?_)
      · have hF := oi_t hc hF
        exact wX10_cell_53 ad A C0 M hr hF (lv_sub hl [0, 1, 2] rfl)
      · have hF := oi_f hc hF
        refine lv_aload_n hx hb dX10_cell_37 rfl (lv_at hl 0 rfl) ?_
        obtain ⟨v38, hv, hF⟩ := ob hF
        refine k_getP C0 M.1 hv fl_X10_128 dX10_cell_38 ?_
        refine lv_iload_n hx hb dX10_cell_41 rfl (lv_at hl 1 rfl) ?_
        obtain ⟨v42, hv, hF⟩ := ob hF
        refine k_ld C0 M.1 hv dX10_cell_42 ?_
        refine lv_iload_n hx hb dX10_cell_43 rfl (lv_at hl 3 rfl) ?_
        refine lv_icmp_eq (tgt := 53) hx hb dX10_cell_44 (by decide) (fun hc => ?_) (fun hc => ?_)
        · have hF := oi_t hc hF
          exact wX10_cell_53 ad A C0 M hr hF (lv_sub hl [0, 1, 2] rfl)
        · have hF := oi_f hc hF
          refine lv_aload_n hx hb dX10_cell_47 rfl (lv_at hl 0 rfl) ?_
          refine lv_iconst (v := (2 : Int32)) hx hb dX10_cell_48 (by decide) ?_
          obtain ⟨_, hrec, hF⟩ := ob hF
          obtain ⟨v49, S49, hcl, hF⟩ := ob2 hF
          refine go_ML (r_V (rest := []) (As := [.int (2 : Int32)]) C0 cb_X10_414 M.1 hrec (tX10_failedLong l D cy ad A hcl) (pre_R C0 M.1) hl dX10_cell_49 rfl (Nat.le_of_ble_eq_true rfl) ⟨rfl, rfl⟩ ⟨Nat.le_of_ble_eq_true rfl, Nat.le_of_ble_eq_true rfl⟩ ⟨Nat.le_of_ble_eq_true rfl, Nat.le_of_ble_eq_true rfl⟩ rfl) M (fun H locs M => ?_)
          obtain ⟨rfl, rfl⟩ := Prod.mk.inj (Option.some.inj hF)
          exact rt_ML C0 M hr dX10_cell_52
    · have hF := oi_t hc hF
      exact wX10_cell_24 ad A C0 M hr hF (lv_sub hl [] rfl)
set_option maxHeartbeats 4000000 in
set_option maxRecDepth 100000 in
theorem tX10_cell (l : Launch) (D : va_G) (cy : Nat → ClassId) (ad : Nat → Nat) (A : Nat → Prop) {S S' : MS} {a0 : Nat} {a1 : Int32} {a2 : Int32} {a3 : Int32} {r : Int64} (h : fX10_cell S a0 a1 a2 a3 = some (r, S')) : Met l yX10_cell [Cond.code yX10_cell cX10_cell 4 (some .long)] rmX10_cell (PcR D cy ad A S [.ref (ad a0), .int a1, .int a2, .int a3]) (QcM D cy ad A (m_n S) S' (some (.long r))) 0 0 A := by
  refine met_M (by decide +kernel) cw_X10_cell (Nat.le_of_ble_eq_true rfl) ?_
  intro p e s m args below meth c ls C0 M hr hin hl
  have hl : lv_has ls 4 [(0, .ref (ad a0)), (1, .int a1), (2, .int a2), (3, .int a3)] := hl
  exact wX10_cell_0 ad A C0 M hr h hl
set_option maxHeartbeats 4000000 in
set_option maxRecDepth 100000 in
theorem wX10_isBeyond_25 {p : Program} {l : Launch} {e : Env} {s : State} {m : MethodId} {args : Array Value} {below : List Frame} {meth : Method} {c : Code} {D : va_G} {cy : Nat → ClassId} (ad : Nat → Nat) (A : Nat → Prop) {r : Int32} {ls : Array Slot} {z0 : Int32} (C0 : CX p s m args meth c RX10 cX10_isBeyond 4 D cy) (hr : meth.sig.returnType = some .boolean) (hF : bX10_isBeyond_25 z0 = some r) (hl : lv_has ls 4 []) : W p l e rmX10_isBeyond s m args below meth c s.heap [] 0 0 (MQ below (QcS (some (.int r))) args s 0 0 (fun _ => False)) (F0 m 25 ls [.int z0]) := by
  unfold bX10_isBeyond_25 at hF
  obtain ⟨hx, hb, -, hown, -, hts, -⟩ := id C0
  obtain ⟨z25, hz, hF⟩ := ob hF
  have hz2 := (o_if hz).2
  refine vtopi hz2 ?_
  rw [hz2] at hz
  obtain rfl := (Option.some.inj hF)
  exact rt_SZ C0 hr hz dX10_isBeyond_25
set_option maxHeartbeats 4000000 in
set_option maxRecDepth 100000 in
theorem wX10_isBeyond_20 {p : Program} {l : Launch} {e : Env} {s : State} {m : MethodId} {args : Array Value} {below : List Frame} {meth : Method} {c : Code} {D : va_G} {cy : Nat → ClassId} (ad : Nat → Nat) (A : Nat → Prop) {r : Int32} {ls : Array Slot} (C0 : CX p s m args meth c RX10 cX10_isBeyond 4 D cy) (hr : meth.sig.returnType = some .boolean) (hF : bX10_isBeyond_20 = some r) (hl : lv_has ls 4 []) : W p l e rmX10_isBeyond s m args below meth c s.heap [] 0 0 (MQ below (QcS (some (.int r))) args s 0 0 (fun _ => False)) (F0 m 20 ls []) := by
  unfold bX10_isBeyond_20 at hF
  obtain ⟨hx, hb, -, hown, -, hts, -⟩ := id C0
  refine lv_iconst (v := (1 : Int32)) hx hb dX10_isBeyond_20 (by decide) ?_
  refine lv_goto (tgt := 25) hx hb dX10_isBeyond_21 (by decide) ?_
  exact wX10_isBeyond_25 ad A C0 hr hF (lv_sub hl [] rfl)
set_option maxHeartbeats 4000000 in
set_option maxRecDepth 100000 in
theorem wX10_isBeyond_0 {p : Program} {l : Launch} {e : Env} {s : State} {m : MethodId} {args : Array Value} {below : List Frame} {meth : Method} {c : Code} {D : va_G} {cy : Nat → ClassId} (ad : Nat → Nat) (A : Nat → Prop) {r : Int32} {ls : Array Slot} {x0 : Int32} {x1 : Int64} {x3 : Int32} (C0 : CX p s m args meth c RX10 cX10_isBeyond 4 D cy) (hr : meth.sig.returnType = some .boolean) (hF : bX10_isBeyond_0 x0 x1 x3 = some r) (hl : lv_has ls 4 [(0, .int x0), (1, .long x1), (3, .int x3)]) : W p l e rmX10_isBeyond s m args below meth c s.heap [] 0 0 (MQ below (QcS (some (.int r))) args s 0 0 (fun _ => False)) (F0 m 0 ls []) := by
  unfold bX10_isBeyond_0 at hF
  obtain ⟨hx, hb, -, hown, -, hts, -⟩ := id C0
  refine lv_iload_n hx hb dX10_isBeyond_0 rfl (lv_at hl 0 rfl) ?_
  refine lv_if_lt (tgt := 20) hx hb dX10_isBeyond_1 (by decide) (fun hc => ?_) (fun hc => ?_)
  · have hF := oi_t hc hF
    exact wX10_isBeyond_20 ad A C0 hr hF (lv_sub hl [] rfl)
  · have hF := oi_f hc hF
    refine lv_lload_n hx hb dX10_isBeyond_4 rfl (lv_at hl 1 rfl) ?_
    refine lv_lconst (v := (0 : Int64)) hx hb dX10_isBeyond_5 (by decide) ?_
    refine W.lcmp hx hb dX10_isBeyond_6 ?_
    refine lv_if_lt (tgt := 20) hx hb dX10_isBeyond_7 (by decide) (fun hc => ?_) (fun hc => ?_)
    · have hF := oi_t hc hF
      exact wX10_isBeyond_20 ad A C0 hr hF (lv_sub hl [] rfl)
    · have hF := oi_f hc hF
      refine lv_iload_n hx hb dX10_isBeyond_10 rfl (lv_at hl 0 rfl) ?_
      refine lv_i2l (v := (x0.toInt64)) hx hb dX10_isBeyond_11 rfl ?_
      refine lv_lload_n hx hb dX10_isBeyond_12 rfl (lv_at hl 1 rfl) ?_
      refine lv_ladd hx hb dX10_isBeyond_13 ?_
      refine lv_iload_n hx hb dX10_isBeyond_14 rfl (lv_at hl 2 rfl) ?_
      refine lv_i2l (v := (x3.toInt64)) hx hb dX10_isBeyond_15 rfl ?_
      refine W.lcmp hx hb dX10_isBeyond_16 ?_
      refine lv_if_le (tgt := 24) hx hb dX10_isBeyond_17 (by decide) (fun hc => ?_) (fun hc => ?_)
      · have hF := oi_t hc hF
        refine lv_iconst (v := (0 : Int32)) hx hb dX10_isBeyond_24 (by decide) ?_
        exact wX10_isBeyond_25 ad A C0 hr hF (lv_sub hl [] rfl)
      · have hF := oi_f hc hF
        exact wX10_isBeyond_20 ad A C0 hr hF (lv_sub hl [] rfl)
set_option maxHeartbeats 4000000 in
set_option maxRecDepth 100000 in
theorem tX10_isBeyond (l : Launch) (D : va_G) (cy : Nat → ClassId) (ad : Nat → Nat) {a0 : Int32} {a1 : Int64} {a3 : Int32} {r : Int32} (h : fX10_isBeyond a0 a1 a3 = some r) : Met l yX10_isBeyond [Cond.code yX10_isBeyond cX10_isBeyond 4 (some .boolean)] rmX10_isBeyond (PcS D cy [.int a0, .long a1, .int a3]) (QcS (some (.int r))) 0 0 (fun _ => False) := by
  refine met_S (by decide +kernel) cw_X10_isBeyond (Nat.le_of_ble_eq_true rfl) ?_
  intro p e s m args below meth c ls C0 hr hl
  have hl : lv_has ls 4 [(0, .int a0), (1, .long a1), (3, .int a3)] := hl
  exact wX10_isBeyond_0 ad (fun _ => False) C0 hr h hl
set_option maxHeartbeats 4000000 in
set_option maxRecDepth 100000 in
theorem wX10_copy_14 {p : Program} {l : Launch} {e : Env} {s : State} {m : MethodId} {args : Array Value} {below : List Frame} {meth : Method} {c : Code} {D : va_G} {cy : Nat → ClassId} (ad : Nat → Nat) (A : Nat → Prop) {S : MS} {S' : MS} {H : Heap} {locs : List Loc} {n0 : Nat} {r : Int32} {out : (((Nat × Int32 × Int32 × Int32 × Int32 × Int32 × Int32 × MS) ⊕ (Nat × Int32 × Int32 × Int32 × Int32 × MS)) ⊕ (Int32 × MS))} {ls : Array Slot} {x0 : Nat} (C0 : CX p s m args meth c RX10 cX10_copy 7 D cy) (M : ST D cy ad A s.heap (ZN n0 s.heap.size) S H locs) (hr : meth.sig.returnType = some .int) (hF : bX10_copy_14 S x0 = some out) (hl : lv_has ls 7 [(0, .ref (ad x0))]) (Kr : ∀ r9, out = .inr r9 → r9 = (r, S')) (Kh0 : ∀ (y0 : Nat) (y1 : Int32) (y2 : Int32) (y3 : Int32) (y4 : Int32) (y5 : Int32) (y6 : Int32) (S2 : MS), out = .inl (.inl (y0, y1, y2, y3, y4, y5, y6, S2)) → ∀ (H1 : Heap) (locs1 : List Loc) (ls1 : Array Slot), ST D cy ad A s.heap (ZN n0 s.heap.size) S2 H1 locs1 → lv_has ls1 7 [(0, .ref (ad y0)), (1, .int y1), (2, .int y2), (3, .int y3), (4, .int y4), (5, .int y5), (6, .int y6)] → W p l e rmX10_copy s m args below meth c H1 locs1 0 0 (MQ below (QcM D cy ad A n0 S' (some (.int r))) args s 0 0 A) (F0 m 107 ls1 [])) (Kh1 : ∀ (y0 : Nat) (y1 : Int32) (y2 : Int32) (y3 : Int32) (y4 : Int32) (S2 : MS), out = .inl (.inr (y0, y1, y2, y3, y4, S2)) → ∀ (H1 : Heap) (locs1 : List Loc) (ls1 : Array Slot), ST D cy ad A s.heap (ZN n0 s.heap.size) S2 H1 locs1 → lv_has ls1 7 [(0, .ref (ad y0)), (3, .int y1), (4, .int y2), (5, .int y3), (6, .int y4)] → W p l e rmX10_copy s m args below meth c H1 locs1 0 0 (MQ below (QcM D cy ad A n0 S' (some (.int r))) args s 0 0 A) (F0 m 144 ls1 [])) : W p l e rmX10_copy s m args below meth c H locs 0 0 (MQ below (QcM D cy ad A n0 S' (some (.int r))) args s 0 0 A) (F0 m 14 ls []) := by
  unfold bX10_copy_14 at hF
  obtain ⟨hx, hb, -, hown, -, hts, -⟩ := id C0
  refine lv_aload_n hx hb dX10_copy_14 rfl (lv_at hl 0 rfl) ?_
  refine lv_iconst (v := (-1 : Int32)) hx hb dX10_copy_15 (by decide) ?_
  obtain ⟨_, hrec, hF⟩ := ob hF
  obtain ⟨v16, S16, hcl, hF⟩ := ob2 hF
  refine go_MI (r_V (rest := []) (As := [.int (-1 : Int32)]) C0 cb_X10_215 M.1 hrec (tX10_refused l D cy ad A hcl) (pre_R C0 M.1) hl dX10_copy_16 rfl (Nat.le_of_ble_eq_true rfl) ⟨rfl, rfl⟩ ⟨Nat.le_of_ble_eq_true rfl, Nat.le_of_ble_eq_true rfl⟩ ⟨Nat.le_of_ble_eq_true rfl, Nat.le_of_ble_eq_true rfl⟩ rfl) M (fun H locs M => ?_)
  obtain ⟨rfl, rfl⟩ := Prod.mk.inj (Kr _ (Option.some.inj hF).symm)
  exact rt_MI C0 M hr dX10_copy_19
set_option maxHeartbeats 4000000 in
set_option maxRecDepth 100000 in
theorem wX10_copy_38 {p : Program} {l : Launch} {e : Env} {s : State} {m : MethodId} {args : Array Value} {below : List Frame} {meth : Method} {c : Code} {D : va_G} {cy : Nat → ClassId} (ad : Nat → Nat) (A : Nat → Prop) {S : MS} {S' : MS} {H : Heap} {locs : List Loc} {n0 : Nat} {r : Int32} {out : (((Nat × Int32 × Int32 × Int32 × Int32 × Int32 × Int32 × MS) ⊕ (Nat × Int32 × Int32 × Int32 × Int32 × MS)) ⊕ (Int32 × MS))} {ls : Array Slot} {x0 : Nat} (C0 : CX p s m args meth c RX10 cX10_copy 7 D cy) (M : ST D cy ad A s.heap (ZN n0 s.heap.size) S H locs) (hr : meth.sig.returnType = some .int) (hF : bX10_copy_38 S x0 = some out) (hl : lv_has ls 7 [(0, .ref (ad x0))]) (Kr : ∀ r9, out = .inr r9 → r9 = (r, S')) (Kh0 : ∀ (y0 : Nat) (y1 : Int32) (y2 : Int32) (y3 : Int32) (y4 : Int32) (y5 : Int32) (y6 : Int32) (S2 : MS), out = .inl (.inl (y0, y1, y2, y3, y4, y5, y6, S2)) → ∀ (H1 : Heap) (locs1 : List Loc) (ls1 : Array Slot), ST D cy ad A s.heap (ZN n0 s.heap.size) S2 H1 locs1 → lv_has ls1 7 [(0, .ref (ad y0)), (1, .int y1), (2, .int y2), (3, .int y3), (4, .int y4), (5, .int y5), (6, .int y6)] → W p l e rmX10_copy s m args below meth c H1 locs1 0 0 (MQ below (QcM D cy ad A n0 S' (some (.int r))) args s 0 0 A) (F0 m 107 ls1 [])) (Kh1 : ∀ (y0 : Nat) (y1 : Int32) (y2 : Int32) (y3 : Int32) (y4 : Int32) (S2 : MS), out = .inl (.inr (y0, y1, y2, y3, y4, S2)) → ∀ (H1 : Heap) (locs1 : List Loc) (ls1 : Array Slot), ST D cy ad A s.heap (ZN n0 s.heap.size) S2 H1 locs1 → lv_has ls1 7 [(0, .ref (ad y0)), (3, .int y1), (4, .int y2), (5, .int y3), (6, .int y4)] → W p l e rmX10_copy s m args below meth c H1 locs1 0 0 (MQ below (QcM D cy ad A n0 S' (some (.int r))) args s 0 0 A) (F0 m 144 ls1 [])) : W p l e rmX10_copy s m args below meth c H locs 0 0 (MQ below (QcM D cy ad A n0 S' (some (.int r))) args s 0 0 A) (F0 m 38 ls []) := by
  unfold bX10_copy_38 at hF
  obtain ⟨hx, hb, -, hown, -, hts, -⟩ := id C0
  refine lv_aload_n hx hb dX10_copy_38 rfl (lv_at hl 0 rfl) ?_
  refine lv_iconst (v := (1 : Int32)) hx hb dX10_copy_39 (by decide) ?_
  obtain ⟨_, hrec, hF⟩ := ob hF
  obtain ⟨v40, S40, hcl, hF⟩ := ob2 hF
  refine go_MI (r_V (rest := []) (As := [.int (1 : Int32)]) C0 cb_X10_218 M.1 hrec (tX10_failed l D cy ad A hcl) (pre_R C0 M.1) hl dX10_copy_40 rfl (Nat.le_of_ble_eq_true rfl) ⟨rfl, rfl⟩ ⟨Nat.le_of_ble_eq_true rfl, Nat.le_of_ble_eq_true rfl⟩ ⟨Nat.le_of_ble_eq_true rfl, Nat.le_of_ble_eq_true rfl⟩ rfl) M (fun H locs M => ?_)
  obtain ⟨rfl, rfl⟩ := Prod.mk.inj (Kr _ (Option.some.inj hF).symm)
  exact rt_MI C0 M hr dX10_copy_43
set_option maxHeartbeats 4000000 in
set_option maxRecDepth 100000 in
theorem wX10_copy_98 {p : Program} {l : Launch} {e : Env} {s : State} {m : MethodId} {args : Array Value} {below : List Frame} {meth : Method} {c : Code} {D : va_G} {cy : Nat → ClassId} (ad : Nat → Nat) (A : Nat → Prop) {S : MS} {S' : MS} {H : Heap} {locs : List Loc} {n0 : Nat} {r : Int32} {out : (((Nat × Int32 × Int32 × Int32 × Int32 × Int32 × Int32 × MS) ⊕ (Nat × Int32 × Int32 × Int32 × Int32 × MS)) ⊕ (Int32 × MS))} {ls : Array Slot} {x0 : Nat} (C0 : CX p s m args meth c RX10 cX10_copy 7 D cy) (M : ST D cy ad A s.heap (ZN n0 s.heap.size) S H locs) (hr : meth.sig.returnType = some .int) (hF : bX10_copy_98 S x0 = some out) (hl : lv_has ls 7 [(0, .ref (ad x0))]) (Kr : ∀ r9, out = .inr r9 → r9 = (r, S')) (Kh0 : ∀ (y0 : Nat) (y1 : Int32) (y2 : Int32) (y3 : Int32) (y4 : Int32) (y5 : Int32) (y6 : Int32) (S2 : MS), out = .inl (.inl (y0, y1, y2, y3, y4, y5, y6, S2)) → ∀ (H1 : Heap) (locs1 : List Loc) (ls1 : Array Slot), ST D cy ad A s.heap (ZN n0 s.heap.size) S2 H1 locs1 → lv_has ls1 7 [(0, .ref (ad y0)), (1, .int y1), (2, .int y2), (3, .int y3), (4, .int y4), (5, .int y5), (6, .int y6)] → W p l e rmX10_copy s m args below meth c H1 locs1 0 0 (MQ below (QcM D cy ad A n0 S' (some (.int r))) args s 0 0 A) (F0 m 107 ls1 [])) (Kh1 : ∀ (y0 : Nat) (y1 : Int32) (y2 : Int32) (y3 : Int32) (y4 : Int32) (S2 : MS), out = .inl (.inr (y0, y1, y2, y3, y4, S2)) → ∀ (H1 : Heap) (locs1 : List Loc) (ls1 : Array Slot), ST D cy ad A s.heap (ZN n0 s.heap.size) S2 H1 locs1 → lv_has ls1 7 [(0, .ref (ad y0)), (3, .int y1), (4, .int y2), (5, .int y3), (6, .int y4)] → W p l e rmX10_copy s m args below meth c H1 locs1 0 0 (MQ below (QcM D cy ad A n0 S' (some (.int r))) args s 0 0 A) (F0 m 144 ls1 [])) : W p l e rmX10_copy s m args below meth c H locs 0 0 (MQ below (QcM D cy ad A n0 S' (some (.int r))) args s 0 0 A) (F0 m 98 ls []) := by
  unfold bX10_copy_98 at hF
  obtain ⟨hx, hb, -, hown, -, hts, -⟩ := id C0
  refine lv_aload_n hx hb dX10_copy_98 rfl (lv_at hl 0 rfl) ?_
  refine lv_iconst (v := (3 : Int32)) hx hb dX10_copy_99 (by decide) ?_
  obtain ⟨_, hrec, hF⟩ := ob hF
  obtain ⟨v100, S100, hcl, hF⟩ := ob2 hF
  refine go_MI (r_V (rest := []) (As := [.int (3 : Int32)]) C0 cb_X10_218 M.1 hrec (tX10_failed l D cy ad A hcl) (pre_R C0 M.1) hl dX10_copy_100 rfl (Nat.le_of_ble_eq_true rfl) ⟨rfl, rfl⟩ ⟨Nat.le_of_ble_eq_true rfl, Nat.le_of_ble_eq_true rfl⟩ ⟨Nat.le_of_ble_eq_true rfl, Nat.le_of_ble_eq_true rfl⟩ rfl) M (fun H locs M => ?_)
  obtain ⟨rfl, rfl⟩ := Prod.mk.inj (Kr _ (Option.some.inj hF).symm)
  exact rt_MI C0 M hr dX10_copy_103
set_option maxHeartbeats 4000000 in
set_option maxRecDepth 100000 in
theorem wX10_copy_0 {p : Program} {l : Launch} {e : Env} {s : State} {m : MethodId} {args : Array Value} {below : List Frame} {meth : Method} {c : Code} {D : va_G} {cy : Nat → ClassId} (ad : Nat → Nat) (A : Nat → Prop) {S : MS} {S' : MS} {H : Heap} {locs : List Loc} {n0 : Nat} {r : Int32} {out : (((Nat × Int32 × Int32 × Int32 × Int32 × Int32 × Int32 × MS) ⊕ (Nat × Int32 × Int32 × Int32 × Int32 × MS)) ⊕ (Int32 × MS))} {ls : Array Slot} {x0 : Nat} {x1 : Int32} {x2 : Int32} {x3 : Int32} {x4 : Int32} {x5 : Int32} (C0 : CX p s m args meth c RX10 cX10_copy 7 D cy) (M : ST D cy ad A s.heap (ZN n0 s.heap.size) S H locs) (hr : meth.sig.returnType = some .int) (hF : bX10_copy_0 S x0 x1 x2 x3 x4 x5 = some out) (hl : lv_has ls 7 [(0, .ref (ad x0)), (1, .int x1), (2, .int x2), (3, .int x3), (4, .int x4), (5, .int x5)]) (Kr : ∀ r9, out = .inr r9 → r9 = (r, S')) (Kh0 : ∀ (y0 : Nat) (y1 : Int32) (y2 : Int32) (y3 : Int32) (y4 : Int32) (y5 : Int32) (y6 : Int32) (S2 : MS), out = .inl (.inl (y0, y1, y2, y3, y4, y5, y6, S2)) → ∀ (H1 : Heap) (locs1 : List Loc) (ls1 : Array Slot), ST D cy ad A s.heap (ZN n0 s.heap.size) S2 H1 locs1 → lv_has ls1 7 [(0, .ref (ad y0)), (1, .int y1), (2, .int y2), (3, .int y3), (4, .int y4), (5, .int y5), (6, .int y6)] → W p l e rmX10_copy s m args below meth c H1 locs1 0 0 (MQ below (QcM D cy ad A n0 S' (some (.int r))) args s 0 0 A) (F0 m 107 ls1 [])) (Kh1 : ∀ (y0 : Nat) (y1 : Int32) (y2 : Int32) (y3 : Int32) (y4 : Int32) (S2 : MS), out = .inl (.inr (y0, y1, y2, y3, y4, S2)) → ∀ (H1 : Heap) (locs1 : List Loc) (ls1 : Array Slot), ST D cy ad A s.heap (ZN n0 s.heap.size) S2 H1 locs1 → lv_has ls1 7 [(0, .ref (ad y0)), (3, .int y1), (4, .int y2), (5, .int y3), (6, .int y4)] → W p l e rmX10_copy s m args below meth c H1 locs1 0 0 (MQ below (QcM D cy ad A n0 S' (some (.int r))) args s 0 0 A) (F0 m 144 ls1 [])) : W p l e rmX10_copy s m args below meth c H locs 0 0 (MQ below (QcM D cy ad A n0 S' (some (.int r))) args s 0 0 A) (F0 m 0 ls []) := by
  unfold bX10_copy_0 at hF
  obtain ⟨hx, hb, -, hown, -, hts, -⟩ := id C0
  refine lv_iload_n hx hb dX10_copy_0 rfl (lv_at hl 1 rfl) ?_
  obtain ⟨v1, hcl, hF⟩ := ob hF
  refine go_SI (r_S (rest := []) (As := [.int x1]) C0 cb_X10_212 (tX10_noSheet l D cy ad hcl) (pre_S C0) hl dX10_copy_1 rfl (Nat.le_of_ble_eq_true rfl) ⟨rfl, rfl⟩ ⟨Nat.le_of_ble_eq_true rfl, Nat.le_of_ble_eq_true rfl⟩ ⟨Nat.le_of_ble_eq_true rfl, Nat.le_of_ble_eq_true rfl⟩ rfl) ?_
  refine lv_if_ne (tgt := 14) hx hb dX10_copy_4 (by decide) (fun hc => ?_) (fun hc => ?_)
  · have hF := oi_f hc hF
    exact wX10_copy_14 ad A C0 M hr hF (lv_sub hl [0] rfl) Kr Kh0 Kh1
  · have hF := oi_t hc hF
    refine lv_iload_n hx hb dX10_copy_7 rfl (lv_at hl 3 rfl) ?_
    obtain ⟨v8, hcl, hF⟩ := ob hF
    refine go_SI (r_S (rest := []) (As := [.int x3]) C0 cb_X10_212 (tX10_noSheet l D cy ad hcl) (pre_S C0) hl dX10_copy_8 rfl (Nat.le_of_ble_eq_true rfl) ⟨rfl, rfl⟩ ⟨Nat.le_of_ble_eq_true rfl, Nat.le_of_ble_eq_true rfl⟩ ⟨Nat.le_of_ble_eq_true rfl, Nat.le_of_ble_eq_true rfl⟩ rfl) ?_
    refine lv_if_eq (tgt := 20) hx hb dX10_copy_11 (by decide) (fun hc => ?_) (fun hc => ?_)
    · have hF := oi_t hc hF
      refine lv_aload_n hx hb dX10_copy_20 rfl (lv_at hl 0 rfl) ?_
      obtain ⟨v21, hv, hF⟩ := ob hF
      refine k_getP C0 M.1 hv fl_X10_125 dX10_copy_21 ?_
      refine lv_iload_n hx hb dX10_copy_24 rfl (lv_at hl 1 rfl) ?_
      obtain ⟨v25, hv, hF⟩ := ob hF
      refine k_ld C0 M.1 hv dX10_copy_25 ?_
      refine lv_if_lt (tgt := 38) hx hb dX10_copy_26 (by decide) (fun hc => ?_) (fun hc => ?_)
      · have hF := oi_t hc hF
        exact wX10_copy_38 ad A C0 M hr hF (lv_sub hl [0] rfl) Kr Kh0 Kh1
      · have hF := oi_f hc hF
        refine lv_aload_n hx hb dX10_copy_29 rfl (lv_at hl 0 rfl) ?_
        obtain ⟨v30, hv, hF⟩ := ob hF
        refine k_getP C0 M.1 hv fl_X10_125 dX10_copy_30 ?_
        refine lv_iload_n hx hb dX10_copy_33 rfl (lv_at hl 3 rfl) ?_
        obtain ⟨v34, hv, hF⟩ := ob hF
        refine k_ld C0 M.1 hv dX10_copy_34 ?_
        refine lv_if_ge (tgt := 44) hx hb dX10_copy_35 (by decide) (fun hc => ?_) (fun hc => ?_)
        · have hF := oi_t hc hF
          refine lv_aload_n hx hb dX10_copy_44 rfl (lv_at hl 0 rfl) ?_
          obtain ⟨v45, hv, hF⟩ := ob hF
          refine k_getP C0 M.1 hv fl_X10_128 dX10_copy_45 ?_
          refine lv_iload_n hx hb dX10_copy_48 rfl (lv_at hl 1 rfl) ?_
          obtain ⟨v49, hv, hF⟩ := ob hF
          refine k_ld C0 M.1 hv dX10_copy_49 ?_
          refine lv_aload_n hx hb dX10_copy_50 rfl (lv_at hl 0 rfl) ?_
          obtain ⟨v51, hv, hF⟩ := ob hF
          refine k_getP C0 M.1 hv fl_X10_128 dX10_copy_51 ?_
          refine lv_iload_n hx hb dX10_copy_54 rfl (lv_at hl 3 rfl) ?_
          obtain ⟨v55, hv, hF⟩ := ob hF
          refine k_ld C0 M.1 hv dX10_copy_55 ?_
          refine lv_icmp_eq (tgt := 65) hx hb dX10_copy_56 (by decide) (fun hc => ?_) (fun hc => ?_)
          · have hF := oi_t hc hF
            refine lv_iload_n hx hb dX10_copy_65 rfl (lv_at hl 2 rfl) ?_
            refine lv_iload hx hb dX10_copy_66 (lv_at hl 5 rfl) ?_
            refine lv_i2l (v := (x5.toInt64)) hx hb dX10_copy_68 rfl ?_
            refine lv_aload_n hx hb dX10_copy_69 rfl (lv_at hl 0 rfl) ?_
            obtain ⟨v70, hv, hF⟩ := ob hF
            refine k_getP C0 M.1 hv fl_X10_125 dX10_copy_70 ?_
            refine lv_iload_n hx hb dX10_copy_73 rfl (lv_at hl 1 rfl) ?_
            obtain ⟨v74, hv, hF⟩ := ob hF
            refine k_ld C0 M.1 hv dX10_copy_74 ?_
            obtain ⟨v75, hcl, hF⟩ := ob hF
            refine go_SI (r_S (rest := []) (As := [.int x2, .long (x5.toInt64), .int v74]) C0 cb_X10_223 (tX10_isBeyond l D cy ad hcl) (pre_S C0) hl dX10_copy_75 rfl (Nat.le_of_ble_eq_true rfl) ⟨rfl, rfl⟩ ⟨Nat.le_of_ble_eq_true rfl, Nat.le_of_ble_eq_true rfl⟩ ⟨Nat.le_of_ble_eq_true rfl, Nat.le_of_ble_eq_true rfl⟩ rfl) ?_
            refine lv_if_ne (tgt := 98) hx hb dX10_copy_78 (by decide) (fun hc => ?_) (fun hc => ?_)
            · have hF := oi_f hc hF
              exact wX10_copy_98 ad A C0 M hr hF (lv_sub hl [0] rfl) Kr Kh0 Kh1
            · have hF := oi_t hc hF
              refine lv_iload hx hb dX10_copy_81 (lv_at hl 4 rfl) ?_
              refine lv_iload hx hb dX10_copy_83 (lv_at hl 5 rfl) ?_
              refine lv_i2l (v := (x5.toInt64)) hx hb dX10_copy_85 rfl ?_
              refine lv_aload_n hx hb dX10_copy_86 rfl (lv_at hl 0 rfl) ?_
              obtain ⟨v87, hv, hF⟩ := ob hF
              refine k_getP C0 M.1 hv fl_X10_125 dX10_copy_87 ?_
              refine lv_iload_n hx hb dX10_copy_90 rfl (lv_at hl 3 rfl) ?_
              obtain ⟨v91, hv, hF⟩ := ob hF
              refine k_ld C0 M.1 hv dX10_copy_91 ?_
              obtain ⟨v92, hcl, hF⟩ := ob hF
              refine go_SI (r_S (rest := []) (As := [.int x4, .long (x5.toInt64), .int v91]) C0 cb_X10_223 (tX10_isBeyond l D cy ad hcl) (pre_S C0) hl dX10_copy_92 rfl (Nat.le_of_ble_eq_true rfl) ⟨rfl, rfl⟩ ⟨Nat.le_of_ble_eq_true rfl, Nat.le_of_ble_eq_true rfl⟩ ⟨Nat.le_of_ble_eq_true rfl, Nat.le_of_ble_eq_true rfl⟩ rfl) ?_
              refine lv_if_eq (tgt := 104) hx hb dX10_copy_95 (by decide) (fun hc => ?_) (fun hc => ?_)
              · have hF := oi_t hc hF
                refine lv_iconst (v := (0 : Int32)) hx hb dX10_copy_104 (by decide) ?_
                refine lv_istore (lv' := [(6, .int (0 : Int32)), (0, .ref (ad x0)), (1, .int x1), (2, .int x2), (3, .int x3), (4, .int x4), (5, .int x5)]) hx hb dX10_copy_105 hl (by decide) rfl (fun ls hl => ?_)
                exact Kh0 _ _ _ _ _ _ _ _ (Option.some.inj hF).symm _ _ _ M (lv_sub hl [1, 2, 3, 4, 5, 6, 0] rfl)
              · have hF := oi_f hc hF
                exact wX10_copy_98 ad A C0 M hr hF (lv_sub hl [0] rfl) Kr Kh0 Kh1
          · have hF := oi_f hc hF
            refine lv_aload_n hx hb dX10_copy_59 rfl (lv_at hl 0 rfl) ?_
            refine lv_iconst (v := (2 : Int32)) hx hb dX10_copy_60 (by decide) ?_
            obtain ⟨_, hrec, hF⟩ := ob hF
            obtain ⟨v61, S61, hcl, hF⟩ := ob2 hF
            refine go_MI (r_V (rest := []) (As := [.int (2 : Int32)]) C0 cb_X10_218 M.1 hrec (tX10_failed l D cy ad A hcl) (pre_R C0 M.1) hl dX10_copy_61 rfl (Nat.le_of_ble_eq_true rfl) ⟨rfl, rfl⟩ ⟨Nat.le_of_ble_eq_true rfl, Nat.le_of_ble_eq_true rfl⟩ ⟨Nat.le_of_ble_eq_true rfl, Nat.le_of_ble_eq_true rfl⟩ rfl) M (fun H locs M => ?_)
            obtain ⟨rfl, rfl⟩ := Prod.mk.inj (Kr _ (Option.some.inj hF).symm)
            exact rt_MI C0 M hr dX10_copy_64
        · have hF := oi_f hc hF
          exact wX10_copy_38 ad A C0 M hr hF (lv_sub hl [0] rfl) Kr Kh0 Kh1
    · have hF := oi_f hc hF
      exact wX10_copy_14 ad A C0 M hr hF (lv_sub hl [0] rfl) Kr Kh0 Kh1
set_option maxHeartbeats 4000000 in
set_option maxRecDepth 100000 in
theorem wX10_copy_107 {p : Program} {l : Launch} {e : Env} {s : State} {m : MethodId} {args : Array Value} {below : List Frame} {meth : Method} {c : Code} {D : va_G} {cy : Nat → ClassId} (ad : Nat → Nat) (A : Nat → Prop) {S : MS} {S' : MS} {H : Heap} {locs : List Loc} {n0 : Nat} {r : Int32} {out : (((Nat × Int32 × Int32 × Int32 × Int32 × Int32 × Int32 × MS) ⊕ (Nat × Int32 × Int32 × Int32 × Int32 × MS)) ⊕ (Int32 × MS))} {ls : Array Slot} {x0 : Nat} {x1 : Int32} {x2 : Int32} {x3 : Int32} {x4 : Int32} {x5 : Int32} {x6 : Int32} (C0 : CX p s m args meth c RX10 cX10_copy 7 D cy) (M : ST D cy ad A s.heap (ZN n0 s.heap.size) S H locs) (hr : meth.sig.returnType = some .int) (hF : bX10_copy_107 S x0 x1 x2 x3 x4 x5 x6 = some out) (hl : lv_has ls 7 [(0, .ref (ad x0)), (1, .int x1), (2, .int x2), (3, .int x3), (4, .int x4), (5, .int x5), (6, .int x6)]) (Kr : ∀ r9, out = .inr r9 → r9 = (r, S')) (Kh0 : ∀ (y0 : Nat) (y1 : Int32) (y2 : Int32) (y3 : Int32) (y4 : Int32) (y5 : Int32) (y6 : Int32) (S2 : MS), out = .inl (.inl (y0, y1, y2, y3, y4, y5, y6, S2)) → ∀ (H1 : Heap) (locs1 : List Loc) (ls1 : Array Slot), ST D cy ad A s.heap (ZN n0 s.heap.size) S2 H1 locs1 → lv_has ls1 7 [(0, .ref (ad y0)), (1, .int y1), (2, .int y2), (3, .int y3), (4, .int y4), (5, .int y5), (6, .int y6)] → W p l e rmX10_copy s m args below meth c H1 locs1 0 0 (MQ below (QcM D cy ad A n0 S' (some (.int r))) args s 0 0 A) (F0 m 107 ls1 [])) (Kh1 : ∀ (y0 : Nat) (y1 : Int32) (y2 : Int32) (y3 : Int32) (y4 : Int32) (S2 : MS), out = .inl (.inr (y0, y1, y2, y3, y4, S2)) → ∀ (H1 : Heap) (locs1 : List Loc) (ls1 : Array Slot), ST D cy ad A s.heap (ZN n0 s.heap.size) S2 H1 locs1 → lv_has ls1 7 [(0, .ref (ad y0)), (3, .int y1), (4, .int y2), (5, .int y3), (6, .int y4)] → W p l e rmX10_copy s m args below meth c H1 locs1 0 0 (MQ below (QcM D cy ad A n0 S' (some (.int r))) args s 0 0 A) (F0 m 144 ls1 [])) : W p l e rmX10_copy s m args below meth c H locs 0 0 (MQ below (QcM D cy ad A n0 S' (some (.int r))) args s 0 0 A) (F0 m 107 ls []) := by
  unfold bX10_copy_107 at hF
  obtain ⟨hx, hb, -, hown, -, hts, -⟩ := id C0
  refine lv_iload hx hb dX10_copy_107 (lv_at hl 6 rfl) ?_
  refine lv_iload hx hb dX10_copy_109 (lv_at hl 5 rfl) ?_
  refine lv_icmp_ge (tgt := 141) hx hb dX10_copy_111 (by decide) (fun hc => ?_) (fun hc => ?_)
  · have hF := oi_t hc hF
    refine lv_iconst (v := (0 : Int32)) hx hb dX10_copy_141 (by decide) ?_
    refine lv_istore (lv' := [(6, .int (0 : Int32)), (0, .ref (ad x0)), (1, .int x1), (2, .int x2), (3, .int x3), (4, .int x4), (5, .int x5)]) hx hb dX10_copy_142 hl (by decide) rfl (fun ls hl => ?_)
    exact Kh1 _ _ _ _ _ _ (Option.some.inj hF).symm _ _ _ M (lv_sub hl [1, 4, 5, 6, 0] rfl)
  · have hF := oi_f hc hF
    refine lv_aload_n hx hb dX10_copy_114 rfl (lv_at hl 0 rfl) ?_
    obtain ⟨v115, hv, hF⟩ := ob hF
    refine k_getP C0 M.1 hv fl_X10_134 dX10_copy_115 ?_
    refine lv_iload hx hb dX10_copy_118 (lv_at hl 6 rfl) ?_
    refine lv_aload_n hx hb dX10_copy_120 rfl (lv_at hl 0 rfl) ?_
    obtain ⟨v121, hv, hF⟩ := ob hF
    refine k_getP C0 M.1 hv fl_X10_131 dX10_copy_121 ?_
    refine lv_bipush (v := (60 : Int32)) hx hb dX10_copy_124 (by decide) ?_
    refine lv_iload_n hx hb dX10_copy_126 rfl (lv_at hl 1 rfl) ?_
    refine lv_imul hx hb dX10_copy_127 ?_
    refine lv_iload_n hx hb dX10_copy_128 rfl (lv_at hl 2 rfl) ?_
    refine lv_iadd hx hb dX10_copy_129 ?_
    refine lv_iload hx hb dX10_copy_130 (lv_at hl 6 rfl) ?_
    refine lv_iadd hx hb dX10_copy_132 ?_
    obtain ⟨v133, hv, hF⟩ := ob hF
    refine k_ld C0 M.1 hv dX10_copy_133 ?_
    obtain ⟨S134, hv, hF⟩ := ob hF
    refine k_st C0 M hv dX10_copy_134 (fun H locs M => ?_)
    obtain ⟨v135, hv, hF⟩ := ob hF
    refine lv_iinc (v := v135) (lv' := [(6, .int v135), (0, .ref (ad x0)), (1, .int x1), (2, .int x2), (3, .int x3), (4, .int x4), (5, .int x5)]) hx hb dX10_copy_135 hl (k := 6) rfl (by rw [← vtI hv]; rfl) (by decide) rfl (fun ls hl => ?_)
    refine lv_goto (tgt := 107) hx hb dX10_copy_138 (by decide) ?_
    exact Kh0 _ _ _ _ _ _ _ _ (Option.some.inj hF).symm _ _ _ M (lv_sub hl [1, 2, 3, 4, 5, 6, 0] rfl)
set_option maxHeartbeats 4000000 in
set_option maxRecDepth 100000 in
theorem wX10_copy_144 {p : Program} {l : Launch} {e : Env} {s : State} {m : MethodId} {args : Array Value} {below : List Frame} {meth : Method} {c : Code} {D : va_G} {cy : Nat → ClassId} (ad : Nat → Nat) (A : Nat → Prop) {S : MS} {S' : MS} {H : Heap} {locs : List Loc} {n0 : Nat} {r : Int32} {out : (((Nat × Int32 × Int32 × Int32 × Int32 × Int32 × Int32 × MS) ⊕ (Nat × Int32 × Int32 × Int32 × Int32 × MS)) ⊕ (Int32 × MS))} {ls : Array Slot} {x0 : Nat} {x3 : Int32} {x4 : Int32} {x5 : Int32} {x6 : Int32} (C0 : CX p s m args meth c RX10 cX10_copy 7 D cy) (M : ST D cy ad A s.heap (ZN n0 s.heap.size) S H locs) (hr : meth.sig.returnType = some .int) (hF : bX10_copy_144 S x0 x3 x4 x5 x6 = some out) (hl : lv_has ls 7 [(0, .ref (ad x0)), (3, .int x3), (4, .int x4), (5, .int x5), (6, .int x6)]) (Kr : ∀ r9, out = .inr r9 → r9 = (r, S')) (Kh0 : ∀ (y0 : Nat) (y1 : Int32) (y2 : Int32) (y3 : Int32) (y4 : Int32) (y5 : Int32) (y6 : Int32) (S2 : MS), out = .inl (.inl (y0, y1, y2, y3, y4, y5, y6, S2)) → ∀ (H1 : Heap) (locs1 : List Loc) (ls1 : Array Slot), ST D cy ad A s.heap (ZN n0 s.heap.size) S2 H1 locs1 → lv_has ls1 7 [(0, .ref (ad y0)), (1, .int y1), (2, .int y2), (3, .int y3), (4, .int y4), (5, .int y5), (6, .int y6)] → W p l e rmX10_copy s m args below meth c H1 locs1 0 0 (MQ below (QcM D cy ad A n0 S' (some (.int r))) args s 0 0 A) (F0 m 107 ls1 [])) (Kh1 : ∀ (y0 : Nat) (y1 : Int32) (y2 : Int32) (y3 : Int32) (y4 : Int32) (S2 : MS), out = .inl (.inr (y0, y1, y2, y3, y4, S2)) → ∀ (H1 : Heap) (locs1 : List Loc) (ls1 : Array Slot), ST D cy ad A s.heap (ZN n0 s.heap.size) S2 H1 locs1 → lv_has ls1 7 [(0, .ref (ad y0)), (3, .int y1), (4, .int y2), (5, .int y3), (6, .int y4)] → W p l e rmX10_copy s m args below meth c H1 locs1 0 0 (MQ below (QcM D cy ad A n0 S' (some (.int r))) args s 0 0 A) (F0 m 144 ls1 [])) : W p l e rmX10_copy s m args below meth c H locs 0 0 (MQ below (QcM D cy ad A n0 S' (some (.int r))) args s 0 0 A) (F0 m 144 ls []) := by
  unfold bX10_copy_144 at hF
  obtain ⟨hx, hb, -, hown, -, hts, -⟩ := id C0
  refine lv_iload hx hb dX10_copy_144 (lv_at hl 4 rfl) ?_
  refine lv_iload hx hb dX10_copy_146 (lv_at hl 3 rfl) ?_
  refine lv_icmp_ge (tgt := 179) hx hb dX10_copy_148 (by decide) (fun hc => ?_) (fun hc => ?_)
  · have hF := oi_t hc hF
    refine lv_aload_n hx hb dX10_copy_179 rfl (lv_at hl 0 rfl) ?_
    refine lv_iload hx hb dX10_copy_180 (lv_at hl 3 rfl) ?_
    obtain ⟨_, hrec, hF⟩ := ob hF
    obtain ⟨v182, S182, hcl, hF⟩ := ob2 hF
    refine go_MI (r_V (rest := []) (As := [.int x5]) C0 cb_X10_215 M.1 hrec (tX10_refused l D cy ad A hcl) (pre_R C0 M.1) hl dX10_copy_182 rfl (Nat.le_of_ble_eq_true rfl) ⟨rfl, rfl⟩ ⟨Nat.le_of_ble_eq_true rfl, Nat.le_of_ble_eq_true rfl⟩ ⟨Nat.le_of_ble_eq_true rfl, Nat.le_of_ble_eq_true rfl⟩ rfl) M (fun H locs M => ?_)
    obtain ⟨rfl, rfl⟩ := Prod.mk.inj (Kr _ (Option.some.inj hF).symm)
    exact rt_MI C0 M hr dX10_copy_185
  · have hF := oi_f hc hF
    refine lv_aload_n hx hb dX10_copy_151 rfl (lv_at hl 0 rfl) ?_
    obtain ⟨v152, hv, hF⟩ := ob hF
    refine k_getP C0 M.1 hv fl_X10_131 dX10_copy_152 ?_
    refine lv_bipush (v := (60 : Int32)) hx hb dX10_copy_155 (by decide) ?_
    refine lv_iload_n hx hb dX10_copy_157 rfl (lv_at hl 1 rfl) ?_
    refine lv_imul hx hb dX10_copy_158 ?_
    refine lv_iload hx hb dX10_copy_159 (lv_at hl 2 rfl) ?_
    refine lv_iadd hx hb dX10_copy_161 ?_
    refine lv_iload hx hb dX10_copy_162 (lv_at hl 4 rfl) ?_
    refine lv_iadd hx hb dX10_copy_164 ?_
    refine lv_aload_n hx hb dX10_copy_165 rfl (lv_at hl 0 rfl) ?_
    obtain ⟨v166, hv, hF⟩ := ob hF
    refine k_getP C0 M.1 hv fl_X10_134 dX10_copy_166 ?_
    refine lv_iload hx hb dX10_copy_169 (lv_at hl 4 rfl) ?_
    obtain ⟨v171, hv, hF⟩ := ob hF
    refine k_ld C0 M.1 hv dX10_copy_171 ?_
    obtain ⟨S172, hv, hF⟩ := ob hF
    refine k_st C0 M hv dX10_copy_172 (fun H locs M => ?_)
    obtain ⟨v173, hv, hF⟩ := ob hF
    refine lv_iinc (v := v173) (lv' := [(6, .int v173), (0, .ref (ad x0)), (3, .int x3), (4, .int x4), (5, .int x5)]) hx hb dX10_copy_173 hl (k := 4) rfl (by rw [← vtI hv]; rfl) (by decide) rfl (fun ls hl => ?_)
    refine lv_goto (tgt := 144) hx hb dX10_copy_176 (by decide) ?_
    exact Kh1 _ _ _ _ _ _ (Option.some.inj hF).symm _ _ _ M (lv_sub hl [1, 2, 3, 4, 0] rfl)
set_option maxHeartbeats 4000000 in
set_option maxRecDepth 100000 in
theorem tX10_copy (l : Launch) (D : va_G) (cy : Nat → ClassId) (ad : Nat → Nat) (A : Nat → Prop) {S S' : MS} {a0 : Nat} {a1 : Int32} {a2 : Int32} {a3 : Int32} {a4 : Int32} {a5 : Int32} {r : Int32} (h : fX10_copy S a0 a1 a2 a3 a4 a5 = some (r, S')) : Met l yX10_copy [Cond.code yX10_copy cX10_copy 7 (some .int)] rmX10_copy (PcR D cy ad A S [.ref (ad a0), .int a1, .int a2, .int a3, .int a4, .int a5]) (QcM D cy ad A (m_n S) S' (some (.int r))) 0 0 A := by
  refine met_M (by decide +kernel) cw_X10_copy (Nat.le_of_ble_eq_true rfl) ?_
  intro p e s m args below meth c ls C0 M hr hin hl
  have hl : lv_has ls 7 [(0, .ref (ad a0)), (1, .int a1), (2, .int a2), (3, .int a3), (4, .int a4), (5, .int a5)] := hl
  have key := lim_walk (step := sX10_copy) (fun (q : ((Nat × Int32 × Int32 × Int32 × Int32 × Int32 × Int32 × MS) ⊕ (Nat × Int32 × Int32 × Int32 × Int32 × MS))) (r9 : (Int32 × MS)) => ∀ (r : Int32) (S' : MS), r9 = (r, S') → ((∀ (y0 : Nat) (y1 : Int32) (y2 : Int32) (y3 : Int32) (y4 : Int32) (y5 : Int32) (y6 : Int32) (S2 : MS), q = (.inl (y0, y1, y2, y3, y4, y5, y6, S2)) → ∀ (H1 : Heap) (locs1 : List Loc) (ls1 : Array Slot), ST D cy ad A s.heap (ZN (m_n S) s.heap.size) S2 H1 locs1 → lv_has ls1 7 [(0, .ref (ad y0)), (1, .int y1), (2, .int y2), (3, .int y3), (4, .int y4), (5, .int y5), (6, .int y6)] → W p l e rmX10_copy s m args below meth c H1 locs1 0 0 (MQ below (QcM D cy ad A (m_n S) S' (some (.int r))) args s 0 0 A) (F0 m 107 ls1 [])) ∧ (∀ (y0 : Nat) (y1 : Int32) (y2 : Int32) (y3 : Int32) (y4 : Int32) (S2 : MS), q = (.inr (y0, y1, y2, y3, y4, S2)) → ∀ (H1 : Heap) (locs1 : List Loc) (ls1 : Array Slot), ST D cy ad A s.heap (ZN (m_n S) s.heap.size) S2 H1 locs1 → lv_has ls1 7 [(0, .ref (ad y0)), (3, .int y1), (4, .int y2), (5, .int y3), (6, .int y4)] → W p l e rmX10_copy s m args below meth c H1 locs1 0 0 (MQ below (QcM D cy ad A (m_n S) S' (some (.int r))) args s 0 0 A) (F0 m 144 ls1 [])))) ?_
  · unfold fX10_copy at h
    cases hs0 : bX10_copy_0 S a0 a1 a2 a3 a4 a5 with
    | none => rw [hs0] at h; cases h
    | some out =>
      rw [hs0] at h
      refine wX10_copy_0 ad A C0 M hr hs0 hl (fun r9 hr9 => ?_) ?_ ?_
      · subst hr9; exact Option.some.inj h
      · intro y0 y1 y2 y3 y4 y5 y6 y7 hq; subst hq; exact (key _ _ h _ _ rfl).1 _ _ _ _ _ _ _ _ rfl
      · intro y0 y1 y2 y3 y4 y5 hq; subst hq; exact (key _ _ h _ _ rfl).2 _ _ _ _ _ _ rfl
  · intro q r9 out hst hre hin9
    intro r S' er; subst er
    refine ⟨?_, ?_⟩
    · intro y0 y1 y2 y3 y4 y5 y6 y7 hq H1 locs1 ls1 M hl
      subst hq
      exact wX10_copy_107 ad A C0 M hr hst hl hre (fun k0 k1 k2 k3 k4 k5 k6 k7 hk => (hin9 _ hk _ _ rfl).1 _ _ _ _ _ _ _ _ rfl) (fun k0 k1 k2 k3 k4 k5 hk => (hin9 _ hk _ _ rfl).2 _ _ _ _ _ _ rfl)
    · intro y0 y1 y2 y3 y4 y5 hq H1 locs1 ls1 M hl
      subst hq
      exact wX10_copy_144 ad A C0 M hr hst hl hre (fun k0 k1 k2 k3 k4 k5 k6 k7 hk => (hin9 _ hk _ _ rfl).1 _ _ _ _ _ _ _ _ rfl) (fun k0 k1 k2 k3 k4 k5 hk => (hin9 _ hk _ _ rfl).2 _ _ _ _ _ _ rfl)
set_option maxHeartbeats 4000000 in
set_option maxRecDepth 100000 in
theorem wX10_costOf_0 {p : Program} {l : Launch} {e : Env} {s : State} {m : MethodId} {args : Array Value} {below : List Frame} {meth : Method} {c : Code} {D : va_G} {cy : Nat → ClassId} (ad : Nat → Nat) (A : Nat → Prop) {S : MS} {r : Int32} {out : ((Nat × Int32 × Int32 × Int32 × Int32 × Int32) ⊕ Int32)} {ls : Array Slot} {x0 : Nat} {x1 : Int32} {x2 : Int32} (C0 : CX p s m args meth c RX10 cX10_costOf 6 D cy) (M : MW D cy ad A S s.heap) (hr : meth.sig.returnType = some .int) (hF : bX10_costOf_0 S x0 x1 x2 = some out) (hl : lv_has ls 6 [(0, .ref (ad x0)), (1, .int x1), (2, .int x2)]) (Kr : ∀ r9, out = .inr r9 → r9 = r) (Kh0 : ∀ (y0 : Nat) (y1 : Int32) (y2 : Int32) (y3 : Int32) (y4 : Int32) (y5 : Int32), out = .inl (y0, y1, y2, y3, y4, y5) → ∀ (ls1 : Array Slot), lv_has ls1 6 [(0, .ref (ad y0)), (1, .int y1), (2, .int y2), (3, .int y3), (4, .int y4), (5, .int y5)] → W p l e rmX10_costOf s m args below meth c s.heap [] 0 0 (MQ below (QcS (some (.int r))) args s 0 0 (fun _ => False)) (F0 m 8 ls1 [])) : W p l e rmX10_costOf s m args below meth c s.heap [] 0 0 (MQ below (QcS (some (.int r))) args s 0 0 (fun _ => False)) (F0 m 0 ls []) := by
  unfold bX10_costOf_0 at hF
  obtain ⟨hx, hb, -, hown, -, hts, -⟩ := id C0
  refine lv_iconst (v := (0 : Int32)) hx hb dX10_costOf_0 (by decide) ?_
  refine lv_istore_n (lv' := [(3, .int (0 : Int32)), (0, .ref (ad x0)), (1, .int x1), (2, .int x2)]) hx hb dX10_costOf_1 rfl hl (by decide) rfl (fun ls hl => ?_)
  refine lv_iconst (v := (0 : Int32)) hx hb dX10_costOf_2 (by decide) ?_
  refine lv_istore (lv' := [(4, .int (0 : Int32)), (3, .int (0 : Int32)), (0, .ref (ad x0)), (1, .int x1), (2, .int x2)]) hx hb dX10_costOf_3 hl (by decide) rfl (fun ls hl => ?_)
  refine lv_iconst (v := (0 : Int32)) hx hb dX10_costOf_5 (by decide) ?_
  refine lv_istore (lv' := [(5, .int (0 : Int32)), (4, .int (0 : Int32)), (3, .int (0 : Int32)), (0, .ref (ad x0)), (1, .int x1), (2, .int x2)]) hx hb dX10_costOf_6 hl (by decide) rfl (fun ls hl => ?_)
  exact Kh0 _ _ _ _ _ _ (Option.some.inj hF).symm _ (lv_sub hl [3, 4, 5, 2, 1, 0] rfl)
set_option maxHeartbeats 4000000 in
set_option maxRecDepth 100000 in
theorem wX10_costOf_101 {p : Program} {l : Launch} {e : Env} {s : State} {m : MethodId} {args : Array Value} {below : List Frame} {meth : Method} {c : Code} {D : va_G} {cy : Nat → ClassId} (ad : Nat → Nat) (A : Nat → Prop) {S : MS} {r : Int32} {out : ((Nat × Int32 × Int32 × Int32 × Int32 × Int32) ⊕ Int32)} {ls : Array Slot} {x0 : Nat} {x1 : Int32} {x2 : Int32} {x3 : Int32} {x4 : Int32} {x5 : Int32} (C0 : CX p s m args meth c RX10 cX10_costOf 6 D cy) (M : MW D cy ad A S s.heap) (hr : meth.sig.returnType = some .int) (hF : bX10_costOf_101 S x0 x1 x2 x3 x4 x5 = some out) (hl : lv_has ls 6 [(0, .ref (ad x0)), (1, .int x1), (2, .int x2), (3, .int x3), (4, .int x4), (5, .int x5)]) (Kr : ∀ r9, out = .inr r9 → r9 = r) (Kh0 : ∀ (y0 : Nat) (y1 : Int32) (y2 : Int32) (y3 : Int32) (y4 : Int32) (y5 : Int32), out = .inl (y0, y1, y2, y3, y4, y5) → ∀ (ls1 : Array Slot), lv_has ls1 6 [(0, .ref (ad y0)), (1, .int y1), (2, .int y2), (3, .int y3), (4, .int y4), (5, .int y5)] → W p l e rmX10_costOf s m args below meth c s.heap [] 0 0 (MQ below (QcS (some (.int r))) args s 0 0 (fun _ => False)) (F0 m 8 ls1 [])) : W p l e rmX10_costOf s m args below meth c s.heap [] 0 0 (MQ below (QcS (some (.int r))) args s 0 0 (fun _ => False)) (F0 m 101 ls []) := by
  unfold bX10_costOf_101 at hF
  obtain ⟨hx, hb, -, hown, -, hts, -⟩ := id C0
  obtain ⟨v101, hv, hF⟩ := ob hF
  refine lv_iinc (v := v101) (lv' := [(5, .int v101), (0, .ref (ad x0)), (1, .int x1), (2, .int x2), (3, .int x3), (4, .int x4)]) hx hb dX10_costOf_101 hl (k := 5) rfl (by rw [← vtI hv]; rfl) (by decide) rfl (fun ls hl => ?_)
  refine lv_goto (tgt := 8) hx hb dX10_costOf_104 (by decide) ?_
  exact Kh0 _ _ _ _ _ _ (Option.some.inj hF).symm _ (lv_sub hl [1, 2, 3, 4, 5, 0] rfl)
set_option maxHeartbeats 4000000 in
set_option maxRecDepth 100000 in
theorem wX10_costOf_136 {p : Program} {l : Launch} {e : Env} {s : State} {m : MethodId} {args : Array Value} {below : List Frame} {meth : Method} {c : Code} {D : va_G} {cy : Nat → ClassId} (ad : Nat → Nat) (A : Nat → Prop) {S : MS} {r : Int32} {out : ((Nat × Int32 × Int32 × Int32 × Int32 × Int32) ⊕ Int32)} {ls : Array Slot} {z0 : Int32} (C0 : CX p s m args meth c RX10 cX10_costOf 6 D cy) (M : MW D cy ad A S s.heap) (hr : meth.sig.returnType = some .int) (hF : bX10_costOf_136 S z0 = some out) (hl : lv_has ls 6 []) (Kr : ∀ r9, out = .inr r9 → r9 = r) (Kh0 : ∀ (y0 : Nat) (y1 : Int32) (y2 : Int32) (y3 : Int32) (y4 : Int32) (y5 : Int32), out = .inl (y0, y1, y2, y3, y4, y5) → ∀ (ls1 : Array Slot), lv_has ls1 6 [(0, .ref (ad y0)), (1, .int y1), (2, .int y2), (3, .int y3), (4, .int y4), (5, .int y5)] → W p l e rmX10_costOf s m args below meth c s.heap [] 0 0 (MQ below (QcS (some (.int r))) args s 0 0 (fun _ => False)) (F0 m 8 ls1 [])) : W p l e rmX10_costOf s m args below meth c s.heap [] 0 0 (MQ below (QcS (some (.int r))) args s 0 0 (fun _ => False)) (F0 m 136 ls [.int z0]) := by
  unfold bX10_costOf_136 at hF
  obtain ⟨hx, hb, -, hown, -, hts, -⟩ := id C0
  obtain rfl := (Kr _ (Option.some.inj hF).symm)
  exact rt_SI C0 hr dX10_costOf_136
set_option maxHeartbeats 4000000 in
set_option maxRecDepth 100000 in
theorem wX10_costOf_133 {p : Program} {l : Launch} {e : Env} {s : State} {m : MethodId} {args : Array Value} {below : List Frame} {meth : Method} {c : Code} {D : va_G} {cy : Nat → ClassId} (ad : Nat → Nat) (A : Nat → Prop) {S : MS} {r : Int32} {out : ((Nat × Int32 × Int32 × Int32 × Int32 × Int32) ⊕ Int32)} {ls : Array Slot} (C0 : CX p s m args meth c RX10 cX10_costOf 6 D cy) (M : MW D cy ad A S s.heap) (hr : meth.sig.returnType = some .int) (hF : bX10_costOf_133 S = some out) (hl : lv_has ls 6 []) (Kr : ∀ r9, out = .inr r9 → r9 = r) (Kh0 : ∀ (y0 : Nat) (y1 : Int32) (y2 : Int32) (y3 : Int32) (y4 : Int32) (y5 : Int32), out = .inl (y0, y1, y2, y3, y4, y5) → ∀ (ls1 : Array Slot), lv_has ls1 6 [(0, .ref (ad y0)), (1, .int y1), (2, .int y2), (3, .int y3), (4, .int y4), (5, .int y5)] → W p l e rmX10_costOf s m args below meth c s.heap [] 0 0 (MQ below (QcS (some (.int r))) args s 0 0 (fun _ => False)) (F0 m 8 ls1 [])) : W p l e rmX10_costOf s m args below meth c s.heap [] 0 0 (MQ below (QcS (some (.int r))) args s 0 0 (fun _ => False)) (F0 m 133 ls []) := by
  unfold bX10_costOf_133 at hF
  obtain ⟨hx, hb, -, hown, -, hts, -⟩ := id C0
  refine lv_ldcw (v := (1000000 : Int32)) hx hb hown (hts _ (uw_of 1483 (by decide +kernel) rfl)) dX10_costOf_133 ?_
  exact wX10_costOf_136 ad A C0 M hr hF (lv_sub hl [] rfl) Kr Kh0
set_option maxHeartbeats 4000000 in
set_option maxRecDepth 100000 in
theorem wX10_costOf_8 {p : Program} {l : Launch} {e : Env} {s : State} {m : MethodId} {args : Array Value} {below : List Frame} {meth : Method} {c : Code} {D : va_G} {cy : Nat → ClassId} (ad : Nat → Nat) (A : Nat → Prop) {S : MS} {r : Int32} {out : ((Nat × Int32 × Int32 × Int32 × Int32 × Int32) ⊕ Int32)} {ls : Array Slot} {x0 : Nat} {x1 : Int32} {x2 : Int32} {x3 : Int32} {x4 : Int32} {x5 : Int32} (C0 : CX p s m args meth c RX10 cX10_costOf 6 D cy) (M : MW D cy ad A S s.heap) (hr : meth.sig.returnType = some .int) (hF : bX10_costOf_8 S x0 x1 x2 x3 x4 x5 = some out) (hl : lv_has ls 6 [(0, .ref (ad x0)), (1, .int x1), (2, .int x2), (3, .int x3), (4, .int x4), (5, .int x5)]) (Kr : ∀ r9, out = .inr r9 → r9 = r) (Kh0 : ∀ (y0 : Nat) (y1 : Int32) (y2 : Int32) (y3 : Int32) (y4 : Int32) (y5 : Int32), out = .inl (y0, y1, y2, y3, y4, y5) → ∀ (ls1 : Array Slot), lv_has ls1 6 [(0, .ref (ad y0)), (1, .int y1), (2, .int y2), (3, .int y3), (4, .int y4), (5, .int y5)] → W p l e rmX10_costOf s m args below meth c s.heap [] 0 0 (MQ below (QcS (some (.int r))) args s 0 0 (fun _ => False)) (F0 m 8 ls1 [])) : W p l e rmX10_costOf s m args below meth c s.heap [] 0 0 (MQ below (QcS (some (.int r))) args s 0 0 (fun _ => False)) (F0 m 8 ls []) := by
  unfold bX10_costOf_8 at hF
  obtain ⟨hx, hb, -, hown, -, hts, -⟩ := id C0
  refine lv_iload hx hb dX10_costOf_8 (lv_at hl 5 rfl) ?_
  refine lv_bipush (v := (12 : Int32)) hx hb dX10_costOf_10 (by decide) ?_
  refine lv_icmp_ge (tgt := 107) hx hb dX10_costOf_12 (by decide) (fun hc => ?_) (fun hc => ?_)
  · have hF := oi_t hc hF
    refine lv_iload hx hb dX10_costOf_107 (lv_at hl 4 rfl) ?_
    refine lv_if_eq (tgt := 133) hx hb dX10_costOf_109 (by decide) (fun hc => ?_) (fun hc => ?_)
    · have hF := oi_t hc hF
      exact wX10_costOf_133 ad A C0 M hr hF (lv_sub hl [] rfl) Kr Kh0
    · have hF := oi_f hc hF
      refine lv_aload_n hx hb dX10_costOf_112 rfl (lv_at hl 0 rfl) ?_
      obtain ⟨v113, hv, hF⟩ := ob hF
      refine k_getP C0 M hv fl_X10_71 dX10_costOf_113 ?_
      refine lv_iload_n hx hb dX10_costOf_116 rfl (lv_at hl 1 rfl) ?_
      obtain ⟨v117, hv, hF⟩ := ob hF
      refine k_ld C0 M hv dX10_costOf_117 ?_
      refine lv_aload_n hx hb dX10_costOf_118 rfl (lv_at hl 0 rfl) ?_
      obtain ⟨v119, hv, hF⟩ := ob hF
      refine k_getP C0 M hv fl_X10_71 dX10_costOf_119 ?_
      refine lv_iconst (v := (5 : Int32)) hx hb dX10_costOf_122 (by decide) ?_
      refine lv_iload_n hx hb dX10_costOf_123 rfl (lv_at hl 2 rfl) ?_
      refine lv_iadd hx hb dX10_costOf_124 ?_
      obtain ⟨v125, hv, hF⟩ := ob hF
      refine k_ld C0 M hv dX10_costOf_125 ?_
      refine lv_icmp_ne (tgt := 133) hx hb dX10_costOf_126 (by decide) (fun hc => ?_) (fun hc => ?_)
      · have hF := oi_f hc hF
        exact wX10_costOf_133 ad A C0 M hr hF (lv_sub hl [] rfl) Kr Kh0
      · have hF := oi_t hc hF
        refine lv_iload_n hx hb dX10_costOf_129 rfl (lv_at hl 3 rfl) ?_
        refine lv_goto (tgt := 136) hx hb dX10_costOf_130 (by decide) ?_
        exact wX10_costOf_136 ad A C0 M hr hF (lv_sub hl [] rfl) Kr Kh0
  · have hF := oi_f hc hF
    refine lv_iload hx hb dX10_costOf_15 (lv_at hl 5 rfl) ?_
    refine lv_i2l (v := (x5.toInt64)) hx hb dX10_costOf_17 rfl ?_
    refine lv_aload_n hx hb dX10_costOf_18 rfl (lv_at hl 0 rfl) ?_
    obtain ⟨v19, hv, hF⟩ := ob hF
    refine k_getP C0 M hv fl_X10_74 dX10_costOf_19 ?_
    refine lv_iload_n hx hb dX10_costOf_22 rfl (lv_at hl 1 rfl) ?_
    obtain ⟨v23, hv, hF⟩ := ob hF
    refine k_ld C0 M hv dX10_costOf_23 ?_
    refine lv_i2l (v := (v23.toInt64)) hx hb dX10_costOf_24 rfl ?_
    refine lv_aload_n hx hb dX10_costOf_25 rfl (lv_at hl 0 rfl) ?_
    obtain ⟨v26, hv, hF⟩ := ob hF
    refine k_getP C0 M hv fl_X10_77 dX10_costOf_26 ?_
    refine lv_iload_n hx hb dX10_costOf_29 rfl (lv_at hl 1 rfl) ?_
    obtain ⟨v30, hv, hF⟩ := ob hF
    refine k_ld C0 M hv dX10_costOf_30 ?_
    refine lv_i2l (v := (v30.toInt64)) hx hb dX10_costOf_31 rfl ?_
    obtain ⟨v32, hcl, hF⟩ := ob hF
    refine go_SI (r_S (rest := []) (As := [.long (x5.toInt64), .long (v23.toInt64), .long (v30.toInt64)]) C0 cb_X10_156 (tX10_in l D cy ad hcl) (pre_S C0) hl dX10_costOf_32 rfl (Nat.le_of_ble_eq_true rfl) ⟨rfl, rfl⟩ ⟨Nat.le_of_ble_eq_true rfl, Nat.le_of_ble_eq_true rfl⟩ ⟨Nat.le_of_ble_eq_true rfl, Nat.le_of_ble_eq_true rfl⟩ rfl) ?_
    refine lv_if_eq (tgt := 101) hx hb dX10_costOf_35 (by decide) (fun hc => ?_) (fun hc => ?_)
    · have hF := oi_t hc hF
      exact wX10_costOf_101 ad A C0 M hr hF (lv_sub hl [0, 1, 2, 3, 4, 5] rfl) Kr Kh0
    · have hF := oi_f hc hF
      refine lv_iload hx hb dX10_costOf_38 (lv_at hl 5 rfl) ?_
      refine lv_i2l (v := (x5.toInt64)) hx hb dX10_costOf_40 rfl ?_
      refine lv_aload_n hx hb dX10_costOf_41 rfl (lv_at hl 0 rfl) ?_
      obtain ⟨v42, hv, hF⟩ := ob hF
      refine k_getP C0 M hv fl_X10_74 dX10_costOf_42 ?_
      refine lv_iconst (v := (5 : Int32)) hx hb dX10_costOf_45 (by decide) ?_
      refine lv_iload_n hx hb dX10_costOf_46 rfl (lv_at hl 2 rfl) ?_
      refine lv_iadd hx hb dX10_costOf_47 ?_
      obtain ⟨v48, hv, hF⟩ := ob hF
      refine k_ld C0 M hv dX10_costOf_48 ?_
      refine lv_i2l (v := (v48.toInt64)) hx hb dX10_costOf_49 rfl ?_
      refine lv_aload_n hx hb dX10_costOf_50 rfl (lv_at hl 0 rfl) ?_
      obtain ⟨v51, hv, hF⟩ := ob hF
      refine k_getP C0 M hv fl_X10_77 dX10_costOf_51 ?_
      refine lv_iconst (v := (5 : Int32)) hx hb dX10_costOf_54 (by decide) ?_
      refine lv_iload_n hx hb dX10_costOf_55 rfl (lv_at hl 2 rfl) ?_
      refine lv_iadd hx hb dX10_costOf_56 ?_
      obtain ⟨v57, hv, hF⟩ := ob hF
      refine k_ld C0 M hv dX10_costOf_57 ?_
      refine lv_i2l (v := (v57.toInt64)) hx hb dX10_costOf_58 rfl ?_
      obtain ⟨v59, hcl, hF⟩ := ob hF
      refine go_SI (r_S (rest := []) (As := [.long (x5.toInt64), .long (v48.toInt64), .long (v57.toInt64)]) C0 cb_X10_156 (tX10_in l D cy ad hcl) (pre_S C0) hl dX10_costOf_59 rfl (Nat.le_of_ble_eq_true rfl) ⟨rfl, rfl⟩ ⟨Nat.le_of_ble_eq_true rfl, Nat.le_of_ble_eq_true rfl⟩ ⟨Nat.le_of_ble_eq_true rfl, Nat.le_of_ble_eq_true rfl⟩ rfl) ?_
      refine lv_if_eq (tgt := 101) hx hb dX10_costOf_62 (by decide) (fun hc => ?_) (fun hc => ?_)
      · have hF := oi_t hc hF
        exact wX10_costOf_101 ad A C0 M hr hF (lv_sub hl [0, 1, 2, 3, 4, 5] rfl) Kr Kh0
      · have hF := oi_f hc hF
        refine lv_iconst (v := (1 : Int32)) hx hb dX10_costOf_65 (by decide) ?_
        refine lv_istore (lv' := [(4, .int (1 : Int32)), (0, .ref (ad x0)), (1, .int x1), (2, .int x2), (3, .int x3), (5, .int x5)]) hx hb dX10_costOf_66 hl (by decide) rfl (fun ls hl => ?_)
        refine lv_iload_n hx hb dX10_costOf_68 rfl (lv_at hl 4 rfl) ?_
        refine lv_aload_n hx hb dX10_costOf_69 rfl (lv_at hl 1 rfl) ?_
        obtain ⟨v70, hv, hF⟩ := ob hF
        refine k_getP C0 M hv fl_X10_83 dX10_costOf_70 ?_
        refine lv_bipush (v := (12 : Int32)) hx hb dX10_costOf_73 (by decide) ?_
        refine lv_iload_n hx hb dX10_costOf_75 rfl (lv_at hl 2 rfl) ?_
        refine lv_imul hx hb dX10_costOf_76 ?_
        refine lv_iload hx hb dX10_costOf_77 (lv_at hl 5 rfl) ?_
        refine lv_iadd hx hb dX10_costOf_79 ?_
        obtain ⟨v80, hv, hF⟩ := ob hF
        refine k_ld C0 M hv dX10_costOf_80 ?_
        refine lv_aload_n hx hb dX10_costOf_81 rfl (lv_at hl 1 rfl) ?_
        obtain ⟨v82, hv, hF⟩ := ob hF
        refine k_getP C0 M hv fl_X10_83 dX10_costOf_82 ?_
        refine lv_bipush (v := (12 : Int32)) hx hb dX10_costOf_85 (by decide) ?_
        refine lv_iconst (v := (5 : Int32)) hx hb dX10_costOf_87 (by decide) ?_
        refine lv_iload_n hx hb dX10_costOf_88 rfl (lv_at hl 3 rfl) ?_
        refine lv_iadd hx hb dX10_costOf_89 ?_
        refine lv_imul hx hb dX10_costOf_90 ?_
        refine lv_iload hx hb dX10_costOf_91 (lv_at hl 5 rfl) ?_
        refine lv_iadd hx hb dX10_costOf_93 ?_
        obtain ⟨v94, hv, hF⟩ := ob hF
        refine k_ld C0 M hv dX10_costOf_94 ?_
        refine lv_isub hx hb dX10_costOf_95 ?_
        obtain ⟨v96, hcl, hF⟩ := ob hF
        refine go_SI (r_S (rest := [.int x3]) (As := [.int (v80 - v94)]) C0 cb_X10_195 (tX10_sizeOf l D cy ad hcl) (pre_S C0) hl dX10_costOf_96 rfl (Nat.le_of_ble_eq_true rfl) ⟨rfl, rfl⟩ ⟨Nat.le_of_ble_eq_true rfl, Nat.le_of_ble_eq_true rfl⟩ ⟨Nat.le_of_ble_eq_true rfl, Nat.le_of_ble_eq_true rfl⟩ rfl) ?_
        refine lv_iadd hx hb dX10_costOf_99 ?_
        obtain ⟨v100, hv, hF⟩ := ob hF
        have hv := vtI hv
        refine vtopi hv ?_
        refine lv_istore_n (lv' := [(3, .int v100), (4, .int (1 : Int32)), (0, .ref (ad x0)), (1, .int x1), (2, .int x2), (5, .int x5)]) hx hb dX10_costOf_100 rfl hl (by decide) rfl (fun ls hl => ?_)
        exact wX10_costOf_101 ad A C0 M hr hF (lv_sub hl [2, 3, 4, 0, 1, 5] rfl) Kr Kh0
set_option maxHeartbeats 4000000 in
set_option maxRecDepth 100000 in
theorem tX10_costOf (l : Launch) (D : va_G) (cy : Nat → ClassId) (ad : Nat → Nat) (A : Nat → Prop) {S : MS} {a0 : Nat} {a1 : Int32} {a2 : Int32} {r : Int32} (h : fX10_costOf S a0 a1 a2 = some r) : Met l yX10_costOf [Cond.code yX10_costOf cX10_costOf 6 (some .int)] rmX10_costOf (PcR D cy ad A S [.ref (ad a0), .int a1, .int a2]) (QcS (some (.int r))) 0 0 (fun _ => False) := by
  refine met_R (by decide +kernel) cw_X10_costOf (Nat.le_of_ble_eq_true rfl) ?_
  intro p e s m args below meth c ls C0 M hr hl
  have hl : lv_has ls 6 [(0, .ref (ad a0)), (1, .int a1), (2, .int a2)] := hl
  have key := lim_walk (step := sX10_costOf S) (fun (q : (Nat × Int32 × Int32 × Int32 × Int32 × Int32)) (r9 : Int32) => ∀ (r : Int32), r9 = r → ((∀ (y0 : Nat) (y1 : Int32) (y2 : Int32) (y3 : Int32) (y4 : Int32) (y5 : Int32), q = (y0, y1, y2, y3, y4, y5) → ∀ (ls1 : Array Slot), lv_has ls1 6 [(0, .ref (ad y0)), (1, .int y1), (2, .int y2), (3, .int y3), (4, .int y4), (5, .int y5)] → W p l e rmX10_costOf s m args below meth c s.heap [] 0 0 (MQ below (QcS (some (.int r))) args s 0 0 (fun _ => False)) (F0 m 8 ls1 [])))) ?_
  · unfold fX10_costOf at h
    cases hs0 : bX10_costOf_0 S a0 a1 a2 with
    | none => rw [hs0] at h; cases h
    | some out =>
      rw [hs0] at h
      refine wX10_costOf_0 ad A C0 M hr hs0 hl (fun r9 hr9 => ?_) ?_
      · subst hr9; exact Option.some.inj h
      · intro y0 y1 y2 y3 y4 y5 hq; subst hq; exact (key _ _ h _ rfl) _ _ _ _ _ _ rfl
  · intro q r9 out hst hre hin9
    intro r er; subst er
    refine ?_
    · intro y0 y1 y2 y3 y4 y5 hq ls1 hl
      subst hq
      exact wX10_costOf_8 ad A C0 M hr hst hl hre (fun k0 k1 k2 k3 k4 k5 hk => (hin9 _ hk _ rfl) _ _ _ _ _ _ rfl)
set_option maxHeartbeats 4000000 in
set_option maxRecDepth 100000 in
theorem wX10_noWire_21 {p : Program} {l : Launch} {e : Env} {s : State} {m : MethodId} {args : Array Value} {below : List Frame} {meth : Method} {c : Code} {D : va_G} {cy : Nat → ClassId} (ad : Nat → Nat) (A : Nat → Prop) {S : MS} {r : Int32} {ls : Array Slot} {z0 : Int32} (C0 : CX p s m args meth c RX10 cX10_noWire 2 D cy) (M : MW D cy ad A S s.heap) (hr : meth.sig.returnType = some .boolean) (hF : bX10_noWire_21 S z0 = some r) (hl : lv_has ls 2 []) : W p l e rmX10_noWire s m args below meth c s.heap [] 0 0 (MQ below (QcS (some (.int r))) args s 0 0 (fun _ => False)) (F0 m 21 ls [.int z0]) := by
  unfold bX10_noWire_21 at hF
  obtain ⟨hx, hb, -, hown, -, hts, -⟩ := id C0
  obtain ⟨z21, hz, hF⟩ := ob hF
  have hz2 := (o_if hz).2
  refine vtopi hz2 ?_
  rw [hz2] at hz
  obtain rfl := (Option.some.inj hF)
  exact rt_SZ C0 hr hz dX10_noWire_21
set_option maxHeartbeats 4000000 in
set_option maxRecDepth 100000 in
theorem wX10_noWire_0 {p : Program} {l : Launch} {e : Env} {s : State} {m : MethodId} {args : Array Value} {below : List Frame} {meth : Method} {c : Code} {D : va_G} {cy : Nat → ClassId} (ad : Nat → Nat) (A : Nat → Prop) {S : MS} {r : Int32} {ls : Array Slot} {x0 : Nat} {x1 : Int32} (C0 : CX p s m args meth c RX10 cX10_noWire 2 D cy) (M : MW D cy ad A S s.heap) (hr : meth.sig.returnType = some .boolean) (hF : bX10_noWire_0 S x0 x1 = some r) (hl : lv_has ls 2 [(0, .ref (ad x0)), (1, .int x1)]) : W p l e rmX10_noWire s m args below meth c s.heap [] 0 0 (MQ below (QcS (some (.int r))) args s 0 0 (fun _ => False)) (F0 m 0 ls []) := by
  unfold bX10_noWire_0 at hF
  obtain ⟨hx, hb, -, hown, -, hts, -⟩ := id C0
  refine lv_iload_n hx hb dX10_noWire_0 rfl (lv_at hl 1 rfl) ?_
  refine lv_i2l (v := (x1.toInt64)) hx hb dX10_noWire_1 rfl ?_
  refine lv_lconst (v := (0 : Int64)) hx hb dX10_noWire_2 (by decide) ?_
  refine lv_aload_n hx hb dX10_noWire_3 rfl (lv_at hl 0 rfl) ?_
  obtain ⟨v4, hv, hF⟩ := ob hF
  refine k_getI C0 M hv fl_X10_201 dX10_noWire_4 ?_
  refine lv_i2l (v := (v4.toInt64)) hx hb dX10_noWire_7 rfl ?_
  refine lv_lconst (v := (1 : Int64)) hx hb dX10_noWire_8 (by decide) ?_
  refine lv_lsub hx hb dX10_noWire_9 ?_
  obtain ⟨v10, hcl, hF⟩ := ob hF
  refine go_SI (r_S (rest := []) (As := [.long (x1.toInt64), .long (0 : Int64), .long ((v4.toInt64) - (1 : Int64))]) C0 cb_X10_156 (tX10_in l D cy ad hcl) (pre_S C0) hl dX10_noWire_10 rfl (Nat.le_of_ble_eq_true rfl) ⟨rfl, rfl⟩ ⟨Nat.le_of_ble_eq_true rfl, Nat.le_of_ble_eq_true rfl⟩ ⟨Nat.le_of_ble_eq_true rfl, Nat.le_of_ble_eq_true rfl⟩ rfl) ?_
  refine lv_if_ne (tgt := 20) hx hb dX10_noWire_13 (by decide) (fun hc => ?_) (fun hc => ?_)
  · have hF := oi_f hc hF
    refine lv_iconst (v := (0 : Int32)) hx hb dX10_noWire_20 (by decide) ?_
    exact wX10_noWire_21 ad A C0 M hr hF (lv_sub hl [] rfl)
  · have hF := oi_t hc hF
    refine lv_iconst (v := (1 : Int32)) hx hb dX10_noWire_16 (by decide) ?_
    refine lv_goto (tgt := 21) hx hb dX10_noWire_17 (by decide) ?_
    exact wX10_noWire_21 ad A C0 M hr hF (lv_sub hl [] rfl)
set_option maxHeartbeats 4000000 in
set_option maxRecDepth 100000 in
theorem tX10_noWire (l : Launch) (D : va_G) (cy : Nat → ClassId) (ad : Nat → Nat) (A : Nat → Prop) {S : MS} {a0 : Nat} {a1 : Int32} {r : Int32} (h : fX10_noWire S a0 a1 = some r) : Met l yX10_noWire [Cond.code yX10_noWire cX10_noWire 2 (some .boolean)] rmX10_noWire (PcR D cy ad A S [.ref (ad a0), .int a1]) (QcS (some (.int r))) 0 0 (fun _ => False) := by
  refine met_R (by decide +kernel) cw_X10_noWire (Nat.le_of_ble_eq_true rfl) ?_
  intro p e s m args below meth c ls C0 M hr hl
  have hl : lv_has ls 2 [(0, .ref (ad a0)), (1, .int a1)] := hl
  exact wX10_noWire_0 ad A C0 M hr h hl
set_option maxHeartbeats 4000000 in
set_option maxRecDepth 100000 in
theorem wX10_digit_34 {p : Program} {l : Launch} {e : Env} {s : State} {m : MethodId} {args : Array Value} {below : List Frame} {meth : Method} {c : Code} {D : va_G} {cy : Nat → ClassId} (ad : Nat → Nat) (A : Nat → Prop) {S : MS} {r : Int32} {ls : Array Slot} (C0 : CX p s m args meth c RX10 cX10_digit 5 D cy) (M : MW D cy ad A S s.heap) (hr : meth.sig.returnType = some .int) (hF : bX10_digit_34 S = some r) (hl : lv_has ls 5 []) : W p l e rmX10_digit s m args below meth c s.heap [] 0 0 (MQ below (QcS (some (.int r))) args s 0 0 (fun _ => False)) (F0 m 34 ls []) := by
  unfold bX10_digit_34 at hF
  obtain ⟨hx, hb, -, hown, -, hts, -⟩ := id C0
  refine lv_bipush (v := (-2 : Int32)) hx hb dX10_digit_34 (by decide) ?_
  obtain rfl := (Option.some.inj hF)
  exact rt_SI C0 hr dX10_digit_36
set_option maxHeartbeats 4000000 in
set_option maxRecDepth 100000 in
theorem wX10_digit_66 {p : Program} {l : Launch} {e : Env} {s : State} {m : MethodId} {args : Array Value} {below : List Frame} {meth : Method} {c : Code} {D : va_G} {cy : Nat → ClassId} (ad : Nat → Nat) (A : Nat → Prop) {S : MS} {r : Int32} {ls : Array Slot} {z0 : Int32} (C0 : CX p s m args meth c RX10 cX10_digit 5 D cy) (M : MW D cy ad A S s.heap) (hr : meth.sig.returnType = some .int) (hF : bX10_digit_66 S z0 = some r) (hl : lv_has ls 5 []) : W p l e rmX10_digit s m args below meth c s.heap [] 0 0 (MQ below (QcS (some (.int r))) args s 0 0 (fun _ => False)) (F0 m 66 ls [.int z0]) := by
  unfold bX10_digit_66 at hF
  obtain ⟨hx, hb, -, hown, -, hts, -⟩ := id C0
  obtain rfl := (Option.some.inj hF)
  exact rt_SI C0 hr dX10_digit_66
set_option maxHeartbeats 4000000 in
set_option maxRecDepth 100000 in
theorem wX10_digit_0 {p : Program} {l : Launch} {e : Env} {s : State} {m : MethodId} {args : Array Value} {below : List Frame} {meth : Method} {c : Code} {D : va_G} {cy : Nat → ClassId} (ad : Nat → Nat) (A : Nat → Prop) {S : MS} {r : Int32} {ls : Array Slot} {x0 : Nat} {x1 : Int32} {x2 : Int32} {x3 : Int32} (C0 : CX p s m args meth c RX10 cX10_digit 5 D cy) (M : MW D cy ad A S s.heap) (hr : meth.sig.returnType = some .int) (hF : bX10_digit_0 S x0 x1 x2 x3 = some r) (hl : lv_has ls 5 [(0, .ref (ad x0)), (1, .int x1), (2, .int x2), (3, .int x3)]) : W p l e rmX10_digit s m args below meth c s.heap [] 0 0 (MQ below (QcS (some (.int r))) args s 0 0 (fun _ => False)) (F0 m 0 ls []) := by
  unfold bX10_digit_0 at hF
  obtain ⟨hx, hb, -, hown, -, hts, -⟩ := id C0
  refine lv_aload_n hx hb dX10_digit_0 rfl (lv_at hl 0 rfl) ?_
  refine lv_iload_n hx hb dX10_digit_1 rfl (lv_at hl 1 rfl) ?_
  obtain ⟨_, hrec, hF⟩ := ob hF
  obtain ⟨v2, hcl, hF⟩ := ob hF
  refine go_SI (r_V (rest := []) (As := [.int x1]) C0 cb_X10_234 M hrec (tX10_noWire l D cy ad A hcl) (pre_R C0 M) hl dX10_digit_2 rfl (Nat.le_of_ble_eq_true rfl) ⟨rfl, rfl⟩ ⟨Nat.le_of_ble_eq_true rfl, Nat.le_of_ble_eq_true rfl⟩ ⟨Nat.le_of_ble_eq_true rfl, Nat.le_of_ble_eq_true rfl⟩ rfl) ?_
  refine lv_if_eq (tgt := 10) hx hb dX10_digit_5 (by decide) (fun hc => ?_) (fun hc => ?_)
  · have hF := oi_t hc hF
    refine lv_iload_n hx hb dX10_digit_10 rfl (lv_at hl 2 rfl) ?_
    refine lv_i2l (v := (x2.toInt64)) hx hb dX10_digit_11 rfl ?_
    refine lv_lconst (v := (0 : Int64)) hx hb dX10_digit_12 (by decide) ?_
    refine lv_ldc2 (v := (2 : Int64)) hx hb hown (hts _ (uw_of 1250 (by decide +kernel) rfl)) dX10_digit_13 ?_
    obtain ⟨v16, hcl, hF⟩ := ob hF
    refine go_SI (r_S (rest := []) (As := [.long (x2.toInt64), .long (0 : Int64), .long (2 : Int64)]) C0 cb_X10_156 (tX10_in l D cy ad hcl) (pre_S C0) hl dX10_digit_16 rfl (Nat.le_of_ble_eq_true rfl) ⟨rfl, rfl⟩ ⟨Nat.le_of_ble_eq_true rfl, Nat.le_of_ble_eq_true rfl⟩ ⟨Nat.le_of_ble_eq_true rfl, Nat.le_of_ble_eq_true rfl⟩ rfl) ?_
    refine lv_if_eq (tgt := 34) hx hb dX10_digit_19 (by decide) (fun hc => ?_) (fun hc => ?_)
    · have hF := oi_t hc hF
      exact wX10_digit_34 ad A C0 M hr hF (lv_sub hl [] rfl)
    · have hF := oi_f hc hF
      refine lv_iload_n hx hb dX10_digit_22 rfl (lv_at hl 3 rfl) ?_
      refine lv_i2l (v := (x3.toInt64)) hx hb dX10_digit_23 rfl ?_
      refine lv_lconst (v := (0 : Int64)) hx hb dX10_digit_24 (by decide) ?_
      refine lv_ldc2 (v := (4 : Int64)) hx hb hown (hts _ (uw_of 1380 (by decide +kernel) rfl)) dX10_digit_25 ?_
      obtain ⟨v28, hcl, hF⟩ := ob hF
      refine go_SI (r_S (rest := []) (As := [.long (x3.toInt64), .long (0 : Int64), .long (4 : Int64)]) C0 cb_X10_156 (tX10_in l D cy ad hcl) (pre_S C0) hl dX10_digit_28 rfl (Nat.le_of_ble_eq_true rfl) ⟨rfl, rfl⟩ ⟨Nat.le_of_ble_eq_true rfl, Nat.le_of_ble_eq_true rfl⟩ ⟨Nat.le_of_ble_eq_true rfl, Nat.le_of_ble_eq_true rfl⟩ rfl) ?_
      refine lv_if_ne (tgt := 37) hx hb dX10_digit_31 (by decide) (fun hc => ?_) (fun hc => ?_)
      · have hF := oi_f hc hF
        refine lv_aload_n hx hb dX10_digit_37 rfl (lv_at hl 0 rfl) ?_
        obtain ⟨v38, hv, hF⟩ := ob hF
        refine k_getP C0 M hv fl_X10_37 dX10_digit_38 ?_
        refine lv_bipush (v := (15 : Int32)) hx hb dX10_digit_41 (by decide) ?_
        refine lv_iload_n hx hb dX10_digit_43 rfl (lv_at hl 1 rfl) ?_
        refine lv_imul hx hb dX10_digit_44 ?_
        refine lv_iconst (v := (5 : Int32)) hx hb dX10_digit_45 (by decide) ?_
        refine lv_iload_n hx hb dX10_digit_46 rfl (lv_at hl 2 rfl) ?_
        refine lv_imul hx hb dX10_digit_47 ?_
        refine lv_iadd hx hb dX10_digit_48 ?_
        refine lv_iload_n hx hb dX10_digit_49 rfl (lv_at hl 3 rfl) ?_
        refine lv_iadd hx hb dX10_digit_50 ?_
        obtain ⟨v51, hv, hF⟩ := ob hF
        refine k_ld C0 M hv dX10_digit_51 ?_
        refine lv_istore (lv' := [(4, .int v51), (0, .ref (ad x0)), (1, .int x1), (2, .int x2), (3, .int x3)]) hx hb dX10_digit_52 hl (by decide) rfl (fun ls hl => ?_)
        refine lv_iload hx hb dX10_digit_54 (lv_at hl 0 rfl) ?_
        refine lv_if_ge (tgt := 64) hx hb dX10_digit_56 (by decide) (fun hc => ?_) (fun hc => ?_)
        · have hF := oi_t hc hF
          refine lv_iload hx hb dX10_digit_64 (lv_at hl 0 rfl) ?_
          exact wX10_digit_66 ad A C0 M hr hF (lv_sub hl [] rfl)
        · have hF := oi_f hc hF
          refine lv_bipush (v := (-9 : Int32)) hx hb dX10_digit_59 (by decide) ?_
          refine lv_goto (tgt := 66) hx hb dX10_digit_61 (by decide) ?_
          exact wX10_digit_66 ad A C0 M hr hF (lv_sub hl [] rfl)
      · have hF := oi_t hc hF
        exact wX10_digit_34 ad A C0 M hr hF (lv_sub hl [] rfl)
  · have hF := oi_f hc hF
    refine lv_iconst (v := (-1 : Int32)) hx hb dX10_digit_8 (by decide) ?_
    obtain rfl := (Option.some.inj hF)
    exact rt_SI C0 hr dX10_digit_9
set_option maxHeartbeats 4000000 in
set_option maxRecDepth 100000 in
theorem tX10_digit (l : Launch) (D : va_G) (cy : Nat → ClassId) (ad : Nat → Nat) (A : Nat → Prop) {S : MS} {a0 : Nat} {a1 : Int32} {a2 : Int32} {a3 : Int32} {r : Int32} (h : fX10_digit S a0 a1 a2 a3 = some r) : Met l yX10_digit [Cond.code yX10_digit cX10_digit 5 (some .int)] rmX10_digit (PcR D cy ad A S [.ref (ad a0), .int a1, .int a2, .int a3]) (QcS (some (.int r))) 0 0 (fun _ => False) := by
  refine met_R (by decide +kernel) cw_X10_digit (Nat.le_of_ble_eq_true rfl) ?_
  intro p e s m args below meth c ls C0 M hr hl
  have hl : lv_has ls 5 [(0, .ref (ad a0)), (1, .int a1), (2, .int a2), (3, .int a3)] := hl
  exact wX10_digit_0 ad A C0 M hr h hl
set_option maxHeartbeats 4000000 in
set_option maxRecDepth 100000 in
theorem wX10_doubted_0 {p : Program} {l : Launch} {e : Env} {s : State} {m : MethodId} {args : Array Value} {below : List Frame} {meth : Method} {c : Code} {D : va_G} {cy : Nat → ClassId} (ad : Nat → Nat) (A : Nat → Prop) {S : MS} {S' : MS} {H : Heap} {locs : List Loc} {n0 : Nat} {r : Int32} {ls : Array Slot} {x0 : Nat} (C0 : CX p s m args meth c RX10 cX10_doubted 1 D cy) (M : ST D cy ad A s.heap (ZN n0 s.heap.size) S H locs) (hr : meth.sig.returnType = some .int) (hF : bX10_doubted_0 S x0 = some (r, S')) (hl : lv_has ls 1 [(0, .ref (ad x0))]) : W p l e rmX10_doubted s m args below meth c H locs 0 0 (MQ below (QcM D cy ad A n0 S' (some (.int r))) args s 0 0 A) (F0 m 0 ls []) := by
  unfold bX10_doubted_0 at hF
  obtain ⟨hx, hb, -, hown, -, hts, -⟩ := id C0
  refine lv_aload_n hx hb dX10_doubted_0 rfl (lv_at hl 0 rfl) ?_
  obtain ⟨_, hrec, hF⟩ := ob hF
  obtain ⟨S1, hcl, hF⟩ := ob hF
  refine go_MV (r_V (rest := []) (As := []) C0 cb_X10_237 M.1 hrec (tX10_layChart l D cy ad A hcl) (pre_R C0 M.1) hl dX10_doubted_1 rfl (Nat.le_of_ble_eq_true rfl) ⟨rfl, rfl⟩ ⟨Nat.le_of_ble_eq_true rfl, Nat.le_of_ble_eq_true rfl⟩ ⟨Nat.le_of_ble_eq_true rfl, Nat.le_of_ble_eq_true rfl⟩ rfl) M (fun H locs M => ?_)
  refine lv_aload_n hx hb dX10_doubted_4 rfl (lv_at hl 0 rfl) ?_
  obtain ⟨v5, hv, hF⟩ := ob hF
  refine k_getI C0 M.1 hv fl_X10_263 dX10_doubted_5 ?_
  obtain ⟨rfl, rfl⟩ := Prod.mk.inj (Option.some.inj hF)
  exact rt_MI C0 M hr dX10_doubted_8
set_option maxHeartbeats 4000000 in
set_option maxRecDepth 100000 in
theorem tX10_doubted (l : Launch) (D : va_G) (cy : Nat → ClassId) (ad : Nat → Nat) (A : Nat → Prop) {S S' : MS} {a0 : Nat} {r : Int32} (h : fX10_doubted S a0 = some (r, S')) : Met l yX10_doubted [Cond.code yX10_doubted cX10_doubted 1 (some .int)] rmX10_doubted (PcR D cy ad A S [.ref (ad a0)]) (QcM D cy ad A (m_n S) S' (some (.int r))) 0 0 A := by
  refine met_M (by decide +kernel) cw_X10_doubted (Nat.le_of_ble_eq_true rfl) ?_
  intro p e s m args below meth c ls C0 M hr hin hl
  have hl : lv_has ls 1 [(0, .ref (ad a0))] := hl
  exact wX10_doubted_0 ad A C0 M hr h hl
set_option maxHeartbeats 4000000 in
set_option maxRecDepth 100000 in
theorem wX10_goesOn_64 {p : Program} {l : Launch} {e : Env} {s : State} {m : MethodId} {args : Array Value} {below : List Frame} {meth : Method} {c : Code} {D : va_G} {cy : Nat → ClassId} (ad : Nat → Nat) (A : Nat → Prop) {S : MS} {r : Int32} {ls : Array Slot} {z0 : Int32} (C0 : CX p s m args meth c RX10 cX10_goesOn 6 D cy) (M : MW D cy ad A S s.heap) (hr : meth.sig.returnType = some .boolean) (hF : bX10_goesOn_64 S z0 = some r) (hl : lv_has ls 6 []) : W p l e rmX10_goesOn s m args below meth c s.heap [] 0 0 (MQ below (QcS (some (.int r))) args s 0 0 (fun _ => False)) (F0 m 64 ls [.int z0]) := by
  unfold bX10_goesOn_64 at hF
  obtain ⟨hx, hb, -, hown, -, hts, -⟩ := id C0
  obtain ⟨z64, hz, hF⟩ := ob hF
  have hz2 := (o_if hz).2
  refine vtopi hz2 ?_
  rw [hz2] at hz
  obtain rfl := (Option.some.inj hF)
  exact rt_SZ C0 hr hz dX10_goesOn_64
set_option maxHeartbeats 4000000 in
set_option maxRecDepth 100000 in
theorem wX10_goesOn_63 {p : Program} {l : Launch} {e : Env} {s : State} {m : MethodId} {args : Array Value} {below : List Frame} {meth : Method} {c : Code} {D : va_G} {cy : Nat → ClassId} (ad : Nat → Nat) (A : Nat → Prop) {S : MS} {r : Int32} {ls : Array Slot} (C0 : CX p s m args meth c RX10 cX10_goesOn 6 D cy) (M : MW D cy ad A S s.heap) (hr : meth.sig.returnType = some .boolean) (hF : bX10_goesOn_63 S = some r) (hl : lv_has ls 6 []) : W p l e rmX10_goesOn s m args below meth c s.heap [] 0 0 (MQ below (QcS (some (.int r))) args s 0 0 (fun _ => False)) (F0 m 63 ls []) := by
  unfold bX10_goesOn_63 at hF
  obtain ⟨hx, hb, -, hown, -, hts, -⟩ := id C0
  refine lv_iconst (v := (0 : Int32)) hx hb dX10_goesOn_63 (by decide) ?_
  exact wX10_goesOn_64 ad A C0 M hr hF (lv_sub hl [] rfl)
set_option maxHeartbeats 4000000 in
set_option maxRecDepth 100000 in
theorem wX10_goesOn_32 {p : Program} {l : Launch} {e : Env} {s : State} {m : MethodId} {args : Array Value} {below : List Frame} {meth : Method} {c : Code} {D : va_G} {cy : Nat → ClassId} (ad : Nat → Nat) (A : Nat → Prop) {S : MS} {r : Int32} {ls : Array Slot} {x0 : Nat} {x1 : Int32} {x2 : Int32} {x3 : Int32} {x5 : Int32} {z0 : Int32} (C0 : CX p s m args meth c RX10 cX10_goesOn 6 D cy) (M : MW D cy ad A S s.heap) (hr : meth.sig.returnType = some .boolean) (hF : bX10_goesOn_32 S x0 x1 x2 x3 x5 z0 = some r) (hl : lv_has ls 6 [(0, .ref (ad x0)), (1, .int x1), (2, .int x2), (3, .int x3), (5, .int x5)]) : W p l e rmX10_goesOn s m args below meth c s.heap [] 0 0 (MQ below (QcS (some (.int r))) args s 0 0 (fun _ => False)) (F0 m 32 ls [.int z0]) := by
  unfold bX10_goesOn_32 at hF
  obtain ⟨hx, hb, -, hown, -, hts, -⟩ := id C0
  refine lv_aload_n hx hb dX10_goesOn_32 rfl (lv_at hl 0 rfl) ?_
  obtain ⟨v33, hv, hF⟩ := ob hF
  refine k_getP C0 M hv fl_X10_92 dX10_goesOn_33 ?_
  refine lv_bipush (v := (60 : Int32)) hx hb dX10_goesOn_36 (by decide) ?_
  refine lv_iload_n hx hb dX10_goesOn_38 rfl (lv_at hl 1 rfl) ?_
  refine lv_iconst (v := (1 : Int32)) hx hb dX10_goesOn_39 (by decide) ?_
  refine lv_iadd hx hb dX10_goesOn_40 ?_
  refine lv_imul hx hb dX10_goesOn_41 ?_
  refine lv_iconst (v := (5 : Int32)) hx hb dX10_goesOn_42 (by decide) ?_
  refine lv_iload_n hx hb dX10_goesOn_43 rfl (lv_at hl 2 rfl) ?_
  refine lv_iload_n hx hb dX10_goesOn_44 rfl (lv_at hl 3 rfl) ?_
  refine lv_iadd hx hb dX10_goesOn_45 ?_
  refine lv_imul hx hb dX10_goesOn_46 ?_
  refine lv_iadd hx hb dX10_goesOn_47 ?_
  refine lv_iload_n hx hb dX10_goesOn_48 rfl (lv_at hl 3 rfl) ?_
  refine lv_iadd hx hb dX10_goesOn_49 ?_
  refine lv_iconst (v := (2 : Int32)) hx hb dX10_goesOn_50 (by decide) ?_
  refine lv_iadd hx hb dX10_goesOn_51 ?_
  obtain ⟨v52, hv, hF⟩ := ob hF
  refine k_ld C0 M hv dX10_goesOn_52 ?_
  refine lv_iadd hx hb dX10_goesOn_53 ?_
  refine lv_iload hx hb dX10_goesOn_54 (lv_at hl 4 rfl) ?_
  refine lv_icmp_ne (tgt := 63) hx hb dX10_goesOn_56 (by decide) (fun hc => ?_) (fun hc => ?_)
  · have hF := oi_f hc hF
    exact wX10_goesOn_63 ad A C0 M hr hF (lv_sub hl [] rfl)
  · have hF := oi_t hc hF
    refine lv_iconst (v := (1 : Int32)) hx hb dX10_goesOn_59 (by decide) ?_
    refine lv_goto (tgt := 64) hx hb dX10_goesOn_60 (by decide) ?_
    exact wX10_goesOn_64 ad A C0 M hr hF (lv_sub hl [] rfl)
set_option maxHeartbeats 4000000 in
set_option maxRecDepth 100000 in
theorem wX10_goesOn_0 {p : Program} {l : Launch} {e : Env} {s : State} {m : MethodId} {args : Array Value} {below : List Frame} {meth : Method} {c : Code} {D : va_G} {cy : Nat → ClassId} (ad : Nat → Nat) (A : Nat → Prop) {S : MS} {r : Int32} {ls : Array Slot} {x0 : Nat} {x1 : Int32} {x2 : Int32} {x3 : Int32} {x4 : Int32} {x5 : Int32} (C0 : CX p s m args meth c RX10 cX10_goesOn 6 D cy) (M : MW D cy ad A S s.heap) (hr : meth.sig.returnType = some .boolean) (hF : bX10_goesOn_0 S x0 x1 x2 x3 x4 x5 = some r) (hl : lv_has ls 6 [(0, .ref (ad x0)), (1, .int x1), (2, .int x2), (3, .int x3), (4, .int x4), (5, .int x5)]) : W p l e rmX10_goesOn s m args below meth c s.heap [] 0 0 (MQ below (QcS (some (.int r))) args s 0 0 (fun _ => False)) (F0 m 0 ls []) := by
  unfold bX10_goesOn_0 at hF
  obtain ⟨hx, hb, -, hown, -, hts, -⟩ := id C0
  refine lv_aload_n hx hb dX10_goesOn_0 rfl (lv_at hl 0 rfl) ?_
  refine lv_iload_n hx hb dX10_goesOn_1 rfl (lv_at hl 1 rfl) ?_
  refine lv_iconst (v := (1 : Int32)) hx hb dX10_goesOn_2 (by decide) ?_
  refine lv_iadd hx hb dX10_goesOn_3 ?_
  refine lv_iload_n hx hb dX10_goesOn_4 rfl (lv_at hl 2 rfl) ?_
  refine lv_iload_n hx hb dX10_goesOn_5 rfl (lv_at hl 3 rfl) ?_
  refine lv_iadd hx hb dX10_goesOn_6 ?_
  obtain ⟨_, hrec, hF⟩ := ob hF
  obtain ⟨v7, hcl, hF⟩ := ob hF
  refine go_SI (r_V (rest := []) (As := [.int (x1 + (1 : Int32)), .int (x2 + x3)]) C0 cb_X10_316 M hrec (tX10_isLet l D cy ad A hcl) (pre_R C0 M) hl dX10_goesOn_7 rfl (Nat.le_of_ble_eq_true rfl) ⟨rfl, rfl⟩ ⟨Nat.le_of_ble_eq_true rfl, Nat.le_of_ble_eq_true rfl⟩ ⟨Nat.le_of_ble_eq_true rfl, Nat.le_of_ble_eq_true rfl⟩ rfl) ?_
  refine lv_if_eq (tgt := 63) hx hb dX10_goesOn_10 (by decide) (fun hc => ?_) (fun hc => ?_)
  · have hF := oi_t hc hF
    exact wX10_goesOn_63 ad A C0 M hr hF (lv_sub hl [] rfl)
  · have hF := oi_f hc hF
    refine lv_iload hx hb dX10_goesOn_13 (lv_at hl 4 rfl) ?_
    refine lv_iconst (v := (5 : Int32)) hx hb dX10_goesOn_15 (by decide) ?_
    refine lv_icmp_ne (tgt := 23) hx hb dX10_goesOn_16 (by decide) (fun hc => ?_) (fun hc => ?_)
    · have hF := oi_f hc hF
      refine lv_iload_n hx hb dX10_goesOn_23 rfl (lv_at hl 3 rfl) ?_
      refine lv_iconst (v := (2 : Int32)) hx hb dX10_goesOn_24 (by decide) ?_
      refine lv_iadd hx hb dX10_goesOn_25 ?_
      refine lv_iload hx hb dX10_goesOn_26 (lv_at hl 4 rfl) ?_
      refine lv_isub hx hb dX10_goesOn_28 ?_
      obtain ⟨v29, hcl, hF⟩ := ob hF
      refine go_SI (r_S (rest := []) (As := [.int ((x3 + (2 : Int32)) - x4)]) C0 cb_X10_195 (tX10_sizeOf l D cy ad hcl) (pre_S C0) hl dX10_goesOn_29 rfl (Nat.le_of_ble_eq_true rfl) ⟨rfl, rfl⟩ ⟨Nat.le_of_ble_eq_true rfl, Nat.le_of_ble_eq_true rfl⟩ ⟨Nat.le_of_ble_eq_true rfl, Nat.le_of_ble_eq_true rfl⟩ rfl) ?_
      exact wX10_goesOn_32 ad A C0 M hr hF (lv_sub hl [0, 1, 2, 3, 5] rfl)
    · have hF := oi_t hc hF
      refine lv_iconst (v := (0 : Int32)) hx hb dX10_goesOn_19 (by decide) ?_
      refine lv_goto (tgt := 32) hx hb dX10_goesOn_20 (by decide) ?_
      exact wX10_goesOn_32 ad A C0 M hr hF (lv_sub hl [0, 1, 2, 3, 5] rfl)
set_option maxHeartbeats 4000000 in
set_option maxRecDepth 100000 in
theorem tX10_goesOn (l : Launch) (D : va_G) (cy : Nat → ClassId) (ad : Nat → Nat) (A : Nat → Prop) {S : MS} {a0 : Nat} {a1 : Int32} {a2 : Int32} {a3 : Int32} {a4 : Int32} {a5 : Int32} {r : Int32} (h : fX10_goesOn S a0 a1 a2 a3 a4 a5 = some r) : Met l yX10_goesOn [Cond.code yX10_goesOn cX10_goesOn 6 (some .boolean)] rmX10_goesOn (PcR D cy ad A S [.ref (ad a0), .int a1, .int a2, .int a3, .int a4, .int a5]) (QcS (some (.int r))) 0 0 (fun _ => False) := by
  refine met_R (by decide +kernel) cw_X10_goesOn (Nat.le_of_ble_eq_true rfl) ?_
  intro p e s m args below meth c ls C0 M hr hl
  have hl : lv_has ls 6 [(0, .ref (ad a0)), (1, .int a1), (2, .int a2), (3, .int a3), (4, .int a4), (5, .int a5)] := hl
  exact wX10_goesOn_0 ad A C0 M hr h hl
set_option maxHeartbeats 4000000 in
set_option maxRecDepth 100000 in
theorem wX10_layToCome_0 {p : Program} {l : Launch} {e : Env} {s : State} {m : MethodId} {args : Array Value} {below : List Frame} {meth : Method} {c : Code} {D : va_G} {cy : Nat → ClassId} (ad : Nat → Nat) (A : Nat → Prop) {S : MS} {S' : MS} {H : Heap} {locs : List Loc} {n0 : Nat} {out : (((Nat × Int32 × Int32 × Int32 × MS) ⊕ ((Nat × Int32 × Int32 × Int32 × Int32 × MS) ⊕ (Nat × Int32 × Int32 × Int32 × Int32 × Int32 × MS))) ⊕ MS)} {ls : Array Slot} {x0 : Nat} {x1 : Int32} {x2 : Int32} (C0 : CX p s m args meth c RX10 cX10_layToCome 6 D cy) (M : ST D cy ad A s.heap (ZN n0 s.heap.size) S H locs) (hr : meth.sig.returnType = none) (hF : bX10_layToCome_0 S x0 x1 x2 = some out) (hl : lv_has ls 6 [(0, .ref (ad x0)), (1, .int x1), (2, .int x2)]) (Kr : ∀ r9, out = .inr r9 → r9 = S') (Kh0 : ∀ (y0 : Nat) (y1 : Int32) (y2 : Int32) (y3 : Int32) (S2 : MS), out = .inl (.inl (y0, y1, y2, y3, S2)) → ∀ (H1 : Heap) (locs1 : List Loc) (ls1 : Array Slot), ST D cy ad A s.heap (ZN n0 s.heap.size) S2 H1 locs1 → lv_has ls1 6 [(0, .ref (ad y0)), (1, .int y1), (2, .int y2), (3, .int y3)] → W p l e rmX10_layToCome s m args below meth c H1 locs1 0 0 (MQ below (QcM D cy ad A n0 S' (none)) args s 0 0 A) (F0 m 2 ls1 [])) (Kh1 : ∀ (y0 : Nat) (y1 : Int32) (y2 : Int32) (y3 : Int32) (y4 : Int32) (S2 : MS), out = .inl (.inr (.inl (y0, y1, y2, y3, y4, S2))) → ∀ (H1 : Heap) (locs1 : List Loc) (ls1 : Array Slot), ST D cy ad A s.heap (ZN n0 s.heap.size) S2 H1 locs1 → lv_has ls1 6 [(0, .ref (ad y0)), (1, .int y1), (2, .int y2), (3, .int y3), (4, .int y4)] → W p l e rmX10_layToCome s m args below meth c H1 locs1 0 0 (MQ below (QcM D cy ad A n0 S' (none)) args s 0 0 A) (F0 m 10 ls1 [])) (Kh2 : ∀ (y0 : Nat) (y1 : Int32) (y2 : Int32) (y3 : Int32) (y4 : Int32) (y5 : Int32) (S2 : MS), out = .inl (.inr (.inr (y0, y1, y2, y3, y4, y5, S2))) → ∀ (H1 : Heap) (locs1 : List Loc) (ls1 : Array Slot), ST D cy ad A s.heap (ZN n0 s.heap.size) S2 H1 locs1 → lv_has ls1 6 [(0, .ref (ad y0)), (1, .int y1), (2, .int y2), (3, .int y3), (4, .int y4), (5, .int y5)] → W p l e rmX10_layToCome s m args below meth c H1 locs1 0 0 (MQ below (QcM D cy ad A n0 S' (none)) args s 0 0 A) (F0 m 20 ls1 [])) : W p l e rmX10_layToCome s m args below meth c H locs 0 0 (MQ below (QcM D cy ad A n0 S' (none)) args s 0 0 A) (F0 m 0 ls []) := by
  unfold bX10_layToCome_0 at hF
  obtain ⟨hx, hb, -, hown, -, hts, -⟩ := id C0
  refine lv_iload_n hx hb dX10_layToCome_0 rfl (lv_at hl 2 rfl) ?_
  refine lv_istore_n (lv' := [(3, .int x2), (0, .ref (ad x0)), (1, .int x1), (2, .int x2)]) hx hb dX10_layToCome_1 rfl hl (by decide) rfl (fun ls hl => ?_)
  exact Kh0 _ _ _ _ _ (Option.some.inj hF).symm _ _ _ M (lv_sub hl [1, 2, 3, 0] rfl)
set_option maxHeartbeats 4000000 in
set_option maxRecDepth 100000 in
theorem wX10_layToCome_2 {p : Program} {l : Launch} {e : Env} {s : State} {m : MethodId} {args : Array Value} {below : List Frame} {meth : Method} {c : Code} {D : va_G} {cy : Nat → ClassId} (ad : Nat → Nat) (A : Nat → Prop) {S : MS} {S' : MS} {H : Heap} {locs : List Loc} {n0 : Nat} {out : (((Nat × Int32 × Int32 × Int32 × MS) ⊕ ((Nat × Int32 × Int32 × Int32 × Int32 × MS) ⊕ (Nat × Int32 × Int32 × Int32 × Int32 × Int32 × MS))) ⊕ MS)} {ls : Array Slot} {x0 : Nat} {x1 : Int32} {x2 : Int32} {x3 : Int32} (C0 : CX p s m args meth c RX10 cX10_layToCome 6 D cy) (M : ST D cy ad A s.heap (ZN n0 s.heap.size) S H locs) (hr : meth.sig.returnType = none) (hF : bX10_layToCome_2 S x0 x1 x2 x3 = some out) (hl : lv_has ls 6 [(0, .ref (ad x0)), (1, .int x1), (2, .int x2), (3, .int x3)]) (Kr : ∀ r9, out = .inr r9 → r9 = S') (Kh0 : ∀ (y0 : Nat) (y1 : Int32) (y2 : Int32) (y3 : Int32) (S2 : MS), out = .inl (.inl (y0, y1, y2, y3, S2)) → ∀ (H1 : Heap) (locs1 : List Loc) (ls1 : Array Slot), ST D cy ad A s.heap (ZN n0 s.heap.size) S2 H1 locs1 → lv_has ls1 6 [(0, .ref (ad y0)), (1, .int y1), (2, .int y2), (3, .int y3)] → W p l e rmX10_layToCome s m args below meth c H1 locs1 0 0 (MQ below (QcM D cy ad A n0 S' (none)) args s 0 0 A) (F0 m 2 ls1 [])) (Kh1 : ∀ (y0 : Nat) (y1 : Int32) (y2 : Int32) (y3 : Int32) (y4 : Int32) (S2 : MS), out = .inl (.inr (.inl (y0, y1, y2, y3, y4, S2))) → ∀ (H1 : Heap) (locs1 : List Loc) (ls1 : Array Slot), ST D cy ad A s.heap (ZN n0 s.heap.size) S2 H1 locs1 → lv_has ls1 6 [(0, .ref (ad y0)), (1, .int y1), (2, .int y2), (3, .int y3), (4, .int y4)] → W p l e rmX10_layToCome s m args below meth c H1 locs1 0 0 (MQ below (QcM D cy ad A n0 S' (none)) args s 0 0 A) (F0 m 10 ls1 [])) (Kh2 : ∀ (y0 : Nat) (y1 : Int32) (y2 : Int32) (y3 : Int32) (y4 : Int32) (y5 : Int32) (S2 : MS), out = .inl (.inr (.inr (y0, y1, y2, y3, y4, y5, S2))) → ∀ (H1 : Heap) (locs1 : List Loc) (ls1 : Array Slot), ST D cy ad A s.heap (ZN n0 s.heap.size) S2 H1 locs1 → lv_has ls1 6 [(0, .ref (ad y0)), (1, .int y1), (2, .int y2), (3, .int y3), (4, .int y4), (5, .int y5)] → W p l e rmX10_layToCome s m args below meth c H1 locs1 0 0 (MQ below (QcM D cy ad A n0 S' (none)) args s 0 0 A) (F0 m 20 ls1 [])) : W p l e rmX10_layToCome s m args below meth c H locs 0 0 (MQ below (QcM D cy ad A n0 S' (none)) args s 0 0 A) (F0 m 2 ls []) := by
  unfold bX10_layToCome_2 at hF
  obtain ⟨hx, hb, -, hown, -, hts, -⟩ := id C0
  refine lv_iload_n hx hb dX10_layToCome_2 rfl (lv_at hl 3 rfl) ?_
  refine lv_iload_n hx hb dX10_layToCome_3 rfl (lv_at hl 1 rfl) ?_
  refine lv_icmp_le (tgt := 71) hx hb dX10_layToCome_4 (by decide) (fun hc => ?_) (fun hc => ?_)
  · have hF := oi_t hc hF
    obtain rfl := (Kr _ (Option.some.inj hF).symm)
    exact rt_MV C0 M hr dX10_layToCome_71
  · have hF := oi_f hc hF
    refine lv_iconst (v := (0 : Int32)) hx hb dX10_layToCome_7 (by decide) ?_
    refine lv_istore (lv' := [(4, .int (0 : Int32)), (0, .ref (ad x0)), (1, .int x1), (2, .int x2), (3, .int x3)]) hx hb dX10_layToCome_8 hl (by decide) rfl (fun ls hl => ?_)
    exact Kh1 _ _ _ _ _ _ (Option.some.inj hF).symm _ _ _ M (lv_sub hl [1, 2, 3, 4, 0] rfl)
set_option maxHeartbeats 4000000 in
set_option maxRecDepth 100000 in
theorem wX10_layToCome_10 {p : Program} {l : Launch} {e : Env} {s : State} {m : MethodId} {args : Array Value} {below : List Frame} {meth : Method} {c : Code} {D : va_G} {cy : Nat → ClassId} (ad : Nat → Nat) (A : Nat → Prop) {S : MS} {S' : MS} {H : Heap} {locs : List Loc} {n0 : Nat} {out : (((Nat × Int32 × Int32 × Int32 × MS) ⊕ ((Nat × Int32 × Int32 × Int32 × Int32 × MS) ⊕ (Nat × Int32 × Int32 × Int32 × Int32 × Int32 × MS))) ⊕ MS)} {ls : Array Slot} {x0 : Nat} {x1 : Int32} {x2 : Int32} {x3 : Int32} {x4 : Int32} (C0 : CX p s m args meth c RX10 cX10_layToCome 6 D cy) (M : ST D cy ad A s.heap (ZN n0 s.heap.size) S H locs) (hr : meth.sig.returnType = none) (hF : bX10_layToCome_10 S x0 x1 x2 x3 x4 = some out) (hl : lv_has ls 6 [(0, .ref (ad x0)), (1, .int x1), (2, .int x2), (3, .int x3), (4, .int x4)]) (Kr : ∀ r9, out = .inr r9 → r9 = S') (Kh0 : ∀ (y0 : Nat) (y1 : Int32) (y2 : Int32) (y3 : Int32) (S2 : MS), out = .inl (.inl (y0, y1, y2, y3, S2)) → ∀ (H1 : Heap) (locs1 : List Loc) (ls1 : Array Slot), ST D cy ad A s.heap (ZN n0 s.heap.size) S2 H1 locs1 → lv_has ls1 6 [(0, .ref (ad y0)), (1, .int y1), (2, .int y2), (3, .int y3)] → W p l e rmX10_layToCome s m args below meth c H1 locs1 0 0 (MQ below (QcM D cy ad A n0 S' (none)) args s 0 0 A) (F0 m 2 ls1 [])) (Kh1 : ∀ (y0 : Nat) (y1 : Int32) (y2 : Int32) (y3 : Int32) (y4 : Int32) (S2 : MS), out = .inl (.inr (.inl (y0, y1, y2, y3, y4, S2))) → ∀ (H1 : Heap) (locs1 : List Loc) (ls1 : Array Slot), ST D cy ad A s.heap (ZN n0 s.heap.size) S2 H1 locs1 → lv_has ls1 6 [(0, .ref (ad y0)), (1, .int y1), (2, .int y2), (3, .int y3), (4, .int y4)] → W p l e rmX10_layToCome s m args below meth c H1 locs1 0 0 (MQ below (QcM D cy ad A n0 S' (none)) args s 0 0 A) (F0 m 10 ls1 [])) (Kh2 : ∀ (y0 : Nat) (y1 : Int32) (y2 : Int32) (y3 : Int32) (y4 : Int32) (y5 : Int32) (S2 : MS), out = .inl (.inr (.inr (y0, y1, y2, y3, y4, y5, S2))) → ∀ (H1 : Heap) (locs1 : List Loc) (ls1 : Array Slot), ST D cy ad A s.heap (ZN n0 s.heap.size) S2 H1 locs1 → lv_has ls1 6 [(0, .ref (ad y0)), (1, .int y1), (2, .int y2), (3, .int y3), (4, .int y4), (5, .int y5)] → W p l e rmX10_layToCome s m args below meth c H1 locs1 0 0 (MQ below (QcM D cy ad A n0 S' (none)) args s 0 0 A) (F0 m 20 ls1 [])) : W p l e rmX10_layToCome s m args below meth c H locs 0 0 (MQ below (QcM D cy ad A n0 S' (none)) args s 0 0 A) (F0 m 10 ls []) := by
  unfold bX10_layToCome_10 at hF
  obtain ⟨hx, hb, -, hown, -, hts, -⟩ := id C0
  refine lv_iload hx hb dX10_layToCome_10 (lv_at hl 4 rfl) ?_
  refine lv_bipush (v := (12 : Int32)) hx hb dX10_layToCome_12 (by decide) ?_
  refine lv_icmp_ge (tgt := 65) hx hb dX10_layToCome_14 (by decide) (fun hc => ?_) (fun hc => ?_)
  · have hF := oi_t hc hF
    obtain ⟨v65, hv, hF⟩ := ob hF
    refine lv_iinc (v := v65) (lv' := [(3, .int v65), (0, .ref (ad x0)), (1, .int x1), (2, .int x2), (4, .int x4)]) hx hb dX10_layToCome_65 hl (k := 3) rfl (by rw [← vtI hv]; rfl) (by decide) rfl (fun ls hl => ?_)
    refine lv_goto (tgt := 2) hx hb dX10_layToCome_68 (by decide) ?_
    exact Kh0 _ _ _ _ _ (Option.some.inj hF).symm _ _ _ M (lv_sub hl [1, 2, 3, 0] rfl)
  · have hF := oi_f hc hF
    refine lv_iconst (v := (0 : Int32)) hx hb dX10_layToCome_17 (by decide) ?_
    refine lv_istore (lv' := [(5, .int (0 : Int32)), (0, .ref (ad x0)), (1, .int x1), (2, .int x2), (3, .int x3), (4, .int x4)]) hx hb dX10_layToCome_18 hl (by decide) rfl (fun ls hl => ?_)
    exact Kh2 _ _ _ _ _ _ _ (Option.some.inj hF).symm _ _ _ M (lv_sub hl [1, 2, 3, 4, 5, 0] rfl)
set_option maxHeartbeats 4000000 in
set_option maxRecDepth 100000 in
theorem wX10_layToCome_20 {p : Program} {l : Launch} {e : Env} {s : State} {m : MethodId} {args : Array Value} {below : List Frame} {meth : Method} {c : Code} {D : va_G} {cy : Nat → ClassId} (ad : Nat → Nat) (A : Nat → Prop) {S : MS} {S' : MS} {H : Heap} {locs : List Loc} {n0 : Nat} {out : (((Nat × Int32 × Int32 × Int32 × MS) ⊕ ((Nat × Int32 × Int32 × Int32 × Int32 × MS) ⊕ (Nat × Int32 × Int32 × Int32 × Int32 × Int32 × MS))) ⊕ MS)} {ls : Array Slot} {x0 : Nat} {x1 : Int32} {x2 : Int32} {x3 : Int32} {x4 : Int32} {x5 : Int32} (C0 : CX p s m args meth c RX10 cX10_layToCome 6 D cy) (M : ST D cy ad A s.heap (ZN n0 s.heap.size) S H locs) (hr : meth.sig.returnType = none) (hF : bX10_layToCome_20 S x0 x1 x2 x3 x4 x5 = some out) (hl : lv_has ls 6 [(0, .ref (ad x0)), (1, .int x1), (2, .int x2), (3, .int x3), (4, .int x4), (5, .int x5)]) (Kr : ∀ r9, out = .inr r9 → r9 = S') (Kh0 : ∀ (y0 : Nat) (y1 : Int32) (y2 : Int32) (y3 : Int32) (S2 : MS), out = .inl (.inl (y0, y1, y2, y3, S2)) → ∀ (H1 : Heap) (locs1 : List Loc) (ls1 : Array Slot), ST D cy ad A s.heap (ZN n0 s.heap.size) S2 H1 locs1 → lv_has ls1 6 [(0, .ref (ad y0)), (1, .int y1), (2, .int y2), (3, .int y3)] → W p l e rmX10_layToCome s m args below meth c H1 locs1 0 0 (MQ below (QcM D cy ad A n0 S' (none)) args s 0 0 A) (F0 m 2 ls1 [])) (Kh1 : ∀ (y0 : Nat) (y1 : Int32) (y2 : Int32) (y3 : Int32) (y4 : Int32) (S2 : MS), out = .inl (.inr (.inl (y0, y1, y2, y3, y4, S2))) → ∀ (H1 : Heap) (locs1 : List Loc) (ls1 : Array Slot), ST D cy ad A s.heap (ZN n0 s.heap.size) S2 H1 locs1 → lv_has ls1 6 [(0, .ref (ad y0)), (1, .int y1), (2, .int y2), (3, .int y3), (4, .int y4)] → W p l e rmX10_layToCome s m args below meth c H1 locs1 0 0 (MQ below (QcM D cy ad A n0 S' (none)) args s 0 0 A) (F0 m 10 ls1 [])) (Kh2 : ∀ (y0 : Nat) (y1 : Int32) (y2 : Int32) (y3 : Int32) (y4 : Int32) (y5 : Int32) (S2 : MS), out = .inl (.inr (.inr (y0, y1, y2, y3, y4, y5, S2))) → ∀ (H1 : Heap) (locs1 : List Loc) (ls1 : Array Slot), ST D cy ad A s.heap (ZN n0 s.heap.size) S2 H1 locs1 → lv_has ls1 6 [(0, .ref (ad y0)), (1, .int y1), (2, .int y2), (3, .int y3), (4, .int y4), (5, .int y5)] → W p l e rmX10_layToCome s m args below meth c H1 locs1 0 0 (MQ below (QcM D cy ad A n0 S' (none)) args s 0 0 A) (F0 m 20 ls1 [])) : W p l e rmX10_layToCome s m args below meth c H locs 0 0 (MQ below (QcM D cy ad A n0 S' (none)) args s 0 0 A) (F0 m 20 ls []) := by
  unfold bX10_layToCome_20 at hF
  obtain ⟨hx, hb, -, hown, -, hts, -⟩ := id C0
  refine lv_iload hx hb dX10_layToCome_20 (lv_at hl 5 rfl) ?_
  refine lv_iconst (v := (5 : Int32)) hx hb dX10_layToCome_22 (by decide) ?_
  refine lv_icmp_ge (tgt := 59) hx hb dX10_layToCome_23 (by decide) (fun hc => ?_) (fun hc => ?_)
  · have hF := oi_t hc hF
    obtain ⟨v59, hv, hF⟩ := ob hF
    refine lv_iinc (v := v59) (lv' := [(4, .int v59), (0, .ref (ad x0)), (1, .int x1), (2, .int x2), (3, .int x3), (5, .int x5)]) hx hb dX10_layToCome_59 hl (k := 4) rfl (by rw [← vtI hv]; rfl) (by decide) rfl (fun ls hl => ?_)
    refine lv_goto (tgt := 10) hx hb dX10_layToCome_62 (by decide) ?_
    exact Kh1 _ _ _ _ _ _ (Option.some.inj hF).symm _ _ _ M (lv_sub hl [1, 2, 3, 4, 0] rfl)
  · have hF := oi_f hc hF
    refine lv_aload_n hx hb dX10_layToCome_26 rfl (lv_at hl 0 rfl) ?_
    obtain ⟨v27, hv, hF⟩ := ob hF
    refine k_getP C0 M.1 hv fl_X10_92 dX10_layToCome_27 ?_
    refine lv_bipush (v := (60 : Int32)) hx hb dX10_layToCome_30 (by decide) ?_
    refine lv_iload_n hx hb dX10_layToCome_32 rfl (lv_at hl 3 rfl) ?_
    refine lv_imul hx hb dX10_layToCome_33 ?_
    refine lv_iconst (v := (5 : Int32)) hx hb dX10_layToCome_34 (by decide) ?_
    refine lv_iload hx hb dX10_layToCome_35 (lv_at hl 4 rfl) ?_
    refine lv_imul hx hb dX10_layToCome_37 ?_
    refine lv_iadd hx hb dX10_layToCome_38 ?_
    refine lv_iload hx hb dX10_layToCome_39 (lv_at hl 5 rfl) ?_
    refine lv_iadd hx hb dX10_layToCome_41 ?_
    refine lv_aload_n hx hb dX10_layToCome_42 rfl (lv_at hl 0 rfl) ?_
    refine lv_iload_n hx hb dX10_layToCome_43 rfl (lv_at hl 3 rfl) ?_
    refine lv_iload hx hb dX10_layToCome_44 (lv_at hl 4 rfl) ?_
    refine lv_iload hx hb dX10_layToCome_46 (lv_at hl 5 rfl) ?_
    refine lv_iload_n hx hb dX10_layToCome_48 rfl (lv_at hl 2 rfl) ?_
    obtain ⟨_, hrec, hF⟩ := ob hF
    obtain ⟨v49, hcl, hF⟩ := ob hF
    refine go_SI (r_V (rest := [.int ((((60 : Int32) * x3) + ((5 : Int32) * x4)) + x5), .ref (ad v27)]) (As := [.int x3, .int x4, .int x5, .int x2]) C0 cb_X10_319 M.1 hrec (tX10_bendsAt l D cy ad A hcl) (pre_R C0 M.1) hl dX10_layToCome_49 rfl (Nat.le_of_ble_eq_true rfl) ⟨rfl, rfl⟩ ⟨Nat.le_of_ble_eq_true rfl, Nat.le_of_ble_eq_true rfl⟩ ⟨Nat.le_of_ble_eq_true rfl, Nat.le_of_ble_eq_true rfl⟩ rfl) ?_
    obtain ⟨S52, hv, hF⟩ := ob hF
    refine k_st C0 M hv dX10_layToCome_52 (fun H locs M => ?_)
    obtain ⟨v53, hv, hF⟩ := ob hF
    refine lv_iinc (v := v53) (lv' := [(5, .int v53), (0, .ref (ad x0)), (1, .int x1), (2, .int x2), (3, .int x3), (4, .int x4)]) hx hb dX10_layToCome_53 hl (k := 5) rfl (by rw [← vtI hv]; rfl) (by decide) rfl (fun ls hl => ?_)
    refine lv_goto (tgt := 20) hx hb dX10_layToCome_56 (by decide) ?_
    exact Kh2 _ _ _ _ _ _ _ (Option.some.inj hF).symm _ _ _ M (lv_sub hl [1, 2, 3, 4, 5, 0] rfl)
set_option maxHeartbeats 4000000 in
set_option maxRecDepth 100000 in
theorem tX10_layToCome (l : Launch) (D : va_G) (cy : Nat → ClassId) (ad : Nat → Nat) (A : Nat → Prop) {S S' : MS} {a0 : Nat} {a1 : Int32} {a2 : Int32} (h : fX10_layToCome S a0 a1 a2 = some S') : Met l yX10_layToCome [Cond.code yX10_layToCome cX10_layToCome 6 (none)] rmX10_layToCome (PcR D cy ad A S [.ref (ad a0), .int a1, .int a2]) (QcM D cy ad A (m_n S) S' (none)) 0 0 A := by
  refine met_M (by decide +kernel) cw_X10_layToCome (Nat.le_of_ble_eq_true rfl) ?_
  intro p e s m args below meth c ls C0 M hr hin hl
  have hl : lv_has ls 6 [(0, .ref (ad a0)), (1, .int a1), (2, .int a2)] := hl
  have key := lim_walk (step := sX10_layToCome) (fun (q : ((Nat × Int32 × Int32 × Int32 × MS) ⊕ ((Nat × Int32 × Int32 × Int32 × Int32 × MS) ⊕ (Nat × Int32 × Int32 × Int32 × Int32 × Int32 × MS)))) (r9 : MS) => ∀ (S' : MS), r9 = S' → ((∀ (y0 : Nat) (y1 : Int32) (y2 : Int32) (y3 : Int32) (S2 : MS), q = (.inl (y0, y1, y2, y3, S2)) → ∀ (H1 : Heap) (locs1 : List Loc) (ls1 : Array Slot), ST D cy ad A s.heap (ZN (m_n S) s.heap.size) S2 H1 locs1 → lv_has ls1 6 [(0, .ref (ad y0)), (1, .int y1), (2, .int y2), (3, .int y3)] → W p l e rmX10_layToCome s m args below meth c H1 locs1 0 0 (MQ below (QcM D cy ad A (m_n S) S' (none)) args s 0 0 A) (F0 m 2 ls1 [])) ∧ (∀ (y0 : Nat) (y1 : Int32) (y2 : Int32) (y3 : Int32) (y4 : Int32) (S2 : MS), q = (.inr (.inl (y0, y1, y2, y3, y4, S2))) → ∀ (H1 : Heap) (locs1 : List Loc) (ls1 : Array Slot), ST D cy ad A s.heap (ZN (m_n S) s.heap.size) S2 H1 locs1 → lv_has ls1 6 [(0, .ref (ad y0)), (1, .int y1), (2, .int y2), (3, .int y3), (4, .int y4)] → W p l e rmX10_layToCome s m args below meth c H1 locs1 0 0 (MQ below (QcM D cy ad A (m_n S) S' (none)) args s 0 0 A) (F0 m 10 ls1 [])) ∧ (∀ (y0 : Nat) (y1 : Int32) (y2 : Int32) (y3 : Int32) (y4 : Int32) (y5 : Int32) (S2 : MS), q = (.inr (.inr (y0, y1, y2, y3, y4, y5, S2))) → ∀ (H1 : Heap) (locs1 : List Loc) (ls1 : Array Slot), ST D cy ad A s.heap (ZN (m_n S) s.heap.size) S2 H1 locs1 → lv_has ls1 6 [(0, .ref (ad y0)), (1, .int y1), (2, .int y2), (3, .int y3), (4, .int y4), (5, .int y5)] → W p l e rmX10_layToCome s m args below meth c H1 locs1 0 0 (MQ below (QcM D cy ad A (m_n S) S' (none)) args s 0 0 A) (F0 m 20 ls1 [])))) ?_
  · unfold fX10_layToCome at h
    cases hs0 : bX10_layToCome_0 S a0 a1 a2 with
    | none => rw [hs0] at h; cases h
    | some out =>
      rw [hs0] at h
      refine wX10_layToCome_0 ad A C0 M hr hs0 hl (fun r9 hr9 => ?_) ?_ ?_ ?_
      · subst hr9; exact Option.some.inj h
      · intro y0 y1 y2 y3 y4 hq; subst hq; exact (key _ _ h _ rfl).1 _ _ _ _ _ rfl
      · intro y0 y1 y2 y3 y4 y5 hq; subst hq; exact (key _ _ h _ rfl).2.1 _ _ _ _ _ _ rfl
      · intro y0 y1 y2 y3 y4 y5 y6 hq; subst hq; exact (key _ _ h _ rfl).2.2 _ _ _ _ _ _ _ rfl
  · intro q r9 out hst hre hin9
    intro S' er; subst er
    refine ⟨?_, ?_, ?_⟩
    · intro y0 y1 y2 y3 y4 hq H1 locs1 ls1 M hl
      subst hq
      exact wX10_layToCome_2 ad A C0 M hr hst hl hre (fun k0 k1 k2 k3 k4 hk => (hin9 _ hk _ rfl).1 _ _ _ _ _ rfl) (fun k0 k1 k2 k3 k4 k5 hk => (hin9 _ hk _ rfl).2.1 _ _ _ _ _ _ rfl) (fun k0 k1 k2 k3 k4 k5 k6 hk => (hin9 _ hk _ rfl).2.2 _ _ _ _ _ _ _ rfl)
    · intro y0 y1 y2 y3 y4 y5 hq H1 locs1 ls1 M hl
      subst hq
      exact wX10_layToCome_10 ad A C0 M hr hst hl hre (fun k0 k1 k2 k3 k4 hk => (hin9 _ hk _ rfl).1 _ _ _ _ _ rfl) (fun k0 k1 k2 k3 k4 k5 hk => (hin9 _ hk _ rfl).2.1 _ _ _ _ _ _ rfl) (fun k0 k1 k2 k3 k4 k5 k6 hk => (hin9 _ hk _ rfl).2.2 _ _ _ _ _ _ _ rfl)
    · intro y0 y1 y2 y3 y4 y5 y6 hq H1 locs1 ls1 M hl
      subst hq
      exact wX10_layToCome_20 ad A C0 M hr hst hl hre (fun k0 k1 k2 k3 k4 hk => (hin9 _ hk _ rfl).1 _ _ _ _ _ rfl) (fun k0 k1 k2 k3 k4 k5 hk => (hin9 _ hk _ rfl).2.1 _ _ _ _ _ _ rfl) (fun k0 k1 k2 k3 k4 k5 k6 hk => (hin9 _ hk _ rfl).2.2 _ _ _ _ _ _ _ rfl)
set_option maxHeartbeats 4000000 in
set_option maxRecDepth 100000 in
theorem wX10_drawInto_0 {p : Program} {l : Launch} {e : Env} {s : State} {m : MethodId} {args : Array Value} {below : List Frame} {meth : Method} {c : Code} {D : va_G} {cy : Nat → ClassId} (ad : Nat → Nat) (A : Nat → Prop) {S : MS} {S' : MS} {H : Heap} {locs : List Loc} {n0 : Nat} {r : Int32} {out : (((Nat × Int32 × Int32 × Int32 × Int32 × Int32 × Int32 × MS) ⊕ ((Nat × Int32 × Int32 × Int32 × Int32 × Int32 × Int32 × Int32 × MS) ⊕ (Nat × Int32 × Int32 × Int32 × Int32 × Int32 × Int32 × Int32 × Int32 × MS))) ⊕ (Int32 × MS))} {ls : Array Slot} {x0 : Nat} {x1 : Int32} {x2 : Int32} {x3 : Int32} (C0 : CX p s m args meth c RX10 cX10_drawInto 11 D cy) (M : ST D cy ad A s.heap (ZN n0 s.heap.size) S H locs) (hr : meth.sig.returnType = some .int) (hF : bX10_drawInto_0 S x0 x1 x2 x3 = some out) (hl : lv_has ls 11 [(0, .ref (ad x0)), (1, .int x1), (2, .int x2), (3, .int x3)]) (Kr : ∀ r9, out = .inr r9 → r9 = (r, S')) (Kh0 : ∀ (y0 : Nat) (y1 : Int32) (y2 : Int32) (y3 : Int32) (y4 : Int32) (y5 : Int32) (y6 : Int32) (S2 : MS), out = .inl (.inl (y0, y1, y2, y3, y4, y5, y6, S2)) → ∀ (H1 : Heap) (locs1 : List Loc) (ls1 : Array Slot), ST D cy ad A s.heap (ZN n0 s.heap.size) S2 H1 locs1 → lv_has ls1 11 [(0, .ref (ad y0)), (1, .int y1), (2, .int y2), (3, .int y3), (4, .int y4), (5, .int y5), (6, .int y6)] → W p l e rmX10_drawInto s m args below meth c H1 locs1 0 0 (MQ below (QcM D cy ad A n0 S' (some (.int r))) args s 0 0 A) (F0 m 18 ls1 [])) (Kh1 : ∀ (y0 : Nat) (y1 : Int32) (y2 : Int32) (y3 : Int32) (y4 : Int32) (y5 : Int32) (y6 : Int32) (y7 : Int32) (S2 : MS), out = .inl (.inr (.inl (y0, y1, y2, y3, y4, y5, y6, y7, S2))) → ∀ (H1 : Heap) (locs1 : List Loc) (ls1 : Array Slot), ST D cy ad A s.heap (ZN n0 s.heap.size) S2 H1 locs1 → lv_has ls1 11 [(0, .ref (ad y0)), (1, .int y1), (3, .int y2), (5, .int y3), (6, .int y4), (7, .int y5), (8, .int y6), (9, .int y7)] → W p l e rmX10_drawInto s m args below meth c H1 locs1 0 0 (MQ below (QcM D cy ad A n0 S' (some (.int r))) args s 0 0 A) (F0 m 129 ls1 [])) (Kh2 : ∀ (y0 : Nat) (y1 : Int32) (y2 : Int32) (y3 : Int32) (y4 : Int32) (y5 : Int32) (y6 : Int32) (y7 : Int32) (y8 : Int32) (S2 : MS), out = .inl (.inr (.inr (y0, y1, y2, y3, y4, y5, y6, y7, y8, S2))) → ∀ (H1 : Heap) (locs1 : List Loc) (ls1 : Array Slot), ST D cy ad A s.heap (ZN n0 s.heap.size) S2 H1 locs1 → lv_has ls1 11 [(0, .ref (ad y0)), (1, .int y1), (3, .int y2), (5, .int y3), (6, .int y4), (7, .int y5), (8, .int y6), (9, .int y7), (10, .int y8)] → W p l e rmX10_drawInto s m args below meth c H1 locs1 0 0 (MQ below (QcM D cy ad A n0 S' (some (.int r))) args s 0 0 A) (F0 m 139 ls1 [])) : W p l e rmX10_drawInto s m args below meth c H locs 0 0 (MQ below (QcM D cy ad A n0 S' (some (.int r))) args s 0 0 A) (F0 m 0 ls []) := by
  unfold bX10_drawInto_0 at hF
  obtain ⟨hx, hb, -, hown, -, hts, -⟩ := id C0
  refine lv_aload_n hx hb dX10_drawInto_0 rfl (lv_at hl 0 rfl) ?_
  refine lv_iload_n hx hb dX10_drawInto_1 rfl (lv_at hl 2 rfl) ?_
  refine lv_iload_n hx hb dX10_drawInto_2 rfl (lv_at hl 3 rfl) ?_
  obtain ⟨_, hrec, hF⟩ := ob hF
  obtain ⟨S3, hcl, hF⟩ := ob hF
  refine go_MV (r_V (rest := []) (As := [.int x2, .int x3]) C0 cb_X10_323 M.1 hrec (tX10_layToCome l D cy ad A hcl) (pre_R C0 M.1) hl dX10_drawInto_3 rfl (Nat.le_of_ble_eq_true rfl) ⟨rfl, rfl⟩ ⟨Nat.le_of_ble_eq_true rfl, Nat.le_of_ble_eq_true rfl⟩ ⟨Nat.le_of_ble_eq_true rfl, Nat.le_of_ble_eq_true rfl⟩ rfl) M (fun H locs M => ?_)
  refine lv_bipush (v := (-9 : Int32)) hx hb dX10_drawInto_6 (by decide) ?_
  refine lv_istore (lv' := [(4, .int (-9 : Int32)), (0, .ref (ad x0)), (1, .int x1), (2, .int x2), (3, .int x3)]) hx hb dX10_drawInto_8 hl (by decide) rfl (fun ls hl => ?_)
  refine lv_ldcw (v := (1000000 : Int32)) hx hb hown (hts _ (uw_of 1483 (by decide +kernel) rfl)) dX10_drawInto_10 ?_
  refine lv_istore (lv' := [(5, .int (1000000 : Int32)), (4, .int (-9 : Int32)), (0, .ref (ad x0)), (1, .int x1), (2, .int x2), (3, .int x3)]) hx hb dX10_drawInto_13 hl (by decide) rfl (fun ls hl => ?_)
  refine lv_iconst (v := (0 : Int32)) hx hb dX10_drawInto_15 (by decide) ?_
  refine lv_istore (lv' := [(6, .int (0 : Int32)), (5, .int (1000000 : Int32)), (4, .int (-9 : Int32)), (0, .ref (ad x0)), (1, .int x1), (2, .int x2), (3, .int x3)]) hx hb dX10_drawInto_16 hl (by decide) rfl (fun ls hl => ?_)
  exact Kh0 _ _ _ _ _ _ _ _ (Option.some.inj hF).symm _ _ _ M (lv_sub hl [3, 4, 5, 6, 2, 1, 0] rfl)
set_option maxHeartbeats 4000000 in
set_option maxRecDepth 100000 in
theorem wX10_drawInto_82 {p : Program} {l : Launch} {e : Env} {s : State} {m : MethodId} {args : Array Value} {below : List Frame} {meth : Method} {c : Code} {D : va_G} {cy : Nat → ClassId} (ad : Nat → Nat) (A : Nat → Prop) {S : MS} {S' : MS} {H : Heap} {locs : List Loc} {n0 : Nat} {r : Int32} {out : (((Nat × Int32 × Int32 × Int32 × Int32 × Int32 × Int32 × MS) ⊕ ((Nat × Int32 × Int32 × Int32 × Int32 × Int32 × Int32 × Int32 × MS) ⊕ (Nat × Int32 × Int32 × Int32 × Int32 × Int32 × Int32 × Int32 × Int32 × MS))) ⊕ (Int32 × MS))} {ls : Array Slot} {x0 : Nat} {x1 : Int32} {x2 : Int32} {x3 : Int32} {x4 : Int32} {x6 : Int32} {z0 : Int32} (C0 : CX p s m args meth c RX10 cX10_drawInto 11 D cy) (M : ST D cy ad A s.heap (ZN n0 s.heap.size) S H locs) (hr : meth.sig.returnType = some .int) (hF : bX10_drawInto_82 S x0 x1 x2 x3 x4 x6 z0 = some out) (hl : lv_has ls 11 [(0, .ref (ad x0)), (1, .int x1), (2, .int x2), (3, .int x3), (4, .int x4), (6, .int x6)]) (Kr : ∀ r9, out = .inr r9 → r9 = (r, S')) (Kh0 : ∀ (y0 : Nat) (y1 : Int32) (y2 : Int32) (y3 : Int32) (y4 : Int32) (y5 : Int32) (y6 : Int32) (S2 : MS), out = .inl (.inl (y0, y1, y2, y3, y4, y5, y6, S2)) → ∀ (H1 : Heap) (locs1 : List Loc) (ls1 : Array Slot), ST D cy ad A s.heap (ZN n0 s.heap.size) S2 H1 locs1 → lv_has ls1 11 [(0, .ref (ad y0)), (1, .int y1), (2, .int y2), (3, .int y3), (4, .int y4), (5, .int y5), (6, .int y6)] → W p l e rmX10_drawInto s m args below meth c H1 locs1 0 0 (MQ below (QcM D cy ad A n0 S' (some (.int r))) args s 0 0 A) (F0 m 18 ls1 [])) (Kh1 : ∀ (y0 : Nat) (y1 : Int32) (y2 : Int32) (y3 : Int32) (y4 : Int32) (y5 : Int32) (y6 : Int32) (y7 : Int32) (S2 : MS), out = .inl (.inr (.inl (y0, y1, y2, y3, y4, y5, y6, y7, S2))) → ∀ (H1 : Heap) (locs1 : List Loc) (ls1 : Array Slot), ST D cy ad A s.heap (ZN n0 s.heap.size) S2 H1 locs1 → lv_has ls1 11 [(0, .ref (ad y0)), (1, .int y1), (3, .int y2), (5, .int y3), (6, .int y4), (7, .int y5), (8, .int y6), (9, .int y7)] → W p l e rmX10_drawInto s m args below meth c H1 locs1 0 0 (MQ below (QcM D cy ad A n0 S' (some (.int r))) args s 0 0 A) (F0 m 129 ls1 [])) (Kh2 : ∀ (y0 : Nat) (y1 : Int32) (y2 : Int32) (y3 : Int32) (y4 : Int32) (y5 : Int32) (y6 : Int32) (y7 : Int32) (y8 : Int32) (S2 : MS), out = .inl (.inr (.inr (y0, y1, y2, y3, y4, y5, y6, y7, y8, S2))) → ∀ (H1 : Heap) (locs1 : List Loc) (ls1 : Array Slot), ST D cy ad A s.heap (ZN n0 s.heap.size) S2 H1 locs1 → lv_has ls1 11 [(0, .ref (ad y0)), (1, .int y1), (3, .int y2), (5, .int y3), (6, .int y4), (7, .int y5), (8, .int y6), (9, .int y7), (10, .int y8)] → W p l e rmX10_drawInto s m args below meth c H1 locs1 0 0 (MQ below (QcM D cy ad A n0 S' (some (.int r))) args s 0 0 A) (F0 m 139 ls1 [])) : W p l e rmX10_drawInto s m args below meth c H locs 0 0 (MQ below (QcM D cy ad A n0 S' (some (.int r))) args s 0 0 A) (F0 m 82 ls [.int z0]) := by
  unfold bX10_drawInto_82 at hF
  obtain ⟨hx, hb, -, hown, -, hts, -⟩ := id C0
  refine lv_istore (lv' := [(5, .int z0), (0, .ref (ad x0)), (1, .int x1), (2, .int x2), (3, .int x3), (4, .int x4), (6, .int x6)]) hx hb dX10_drawInto_82 hl (by decide) rfl (fun ls hl => ?_)
  obtain ⟨v84, hv, hF⟩ := ob hF
  refine lv_iinc (v := v84) (lv' := [(6, .int v84), (5, .int z0), (0, .ref (ad x0)), (1, .int x1), (2, .int x2), (3, .int x3), (4, .int x4)]) hx hb dX10_drawInto_84 hl (k := 6) rfl (by rw [← vtI hv]; rfl) (by decide) rfl (fun ls hl => ?_)
  refine lv_goto (tgt := 18) hx hb dX10_drawInto_87 (by decide) ?_
  exact Kh0 _ _ _ _ _ _ _ _ (Option.some.inj hF).symm _ _ _ M (lv_sub hl [2, 3, 4, 5, 6, 1, 0] rfl)
set_option maxHeartbeats 4000000 in
set_option maxRecDepth 100000 in
theorem wX10_drawInto_66 {p : Program} {l : Launch} {e : Env} {s : State} {m : MethodId} {args : Array Value} {below : List Frame} {meth : Method} {c : Code} {D : va_G} {cy : Nat → ClassId} (ad : Nat → Nat) (A : Nat → Prop) {S : MS} {S' : MS} {H : Heap} {locs : List Loc} {n0 : Nat} {r : Int32} {out : (((Nat × Int32 × Int32 × Int32 × Int32 × Int32 × Int32 × MS) ⊕ ((Nat × Int32 × Int32 × Int32 × Int32 × Int32 × Int32 × Int32 × MS) ⊕ (Nat × Int32 × Int32 × Int32 × Int32 × Int32 × Int32 × Int32 × Int32 × MS))) ⊕ (Int32 × MS))} {ls : Array Slot} {x0 : Nat} {x1 : Int32} {x2 : Int32} {x3 : Int32} {x5 : Int32} {x6 : Int32} {x7 : Int32} {z0 : Int32} (C0 : CX p s m args meth c RX10 cX10_drawInto 11 D cy) (M : ST D cy ad A s.heap (ZN n0 s.heap.size) S H locs) (hr : meth.sig.returnType = some .int) (hF : bX10_drawInto_66 S x0 x1 x2 x3 x5 x6 x7 z0 = some out) (hl : lv_has ls 11 [(0, .ref (ad x0)), (1, .int x1), (2, .int x2), (3, .int x3), (5, .int x5), (6, .int x6), (7, .int x7)]) (Kr : ∀ r9, out = .inr r9 → r9 = (r, S')) (Kh0 : ∀ (y0 : Nat) (y1 : Int32) (y2 : Int32) (y3 : Int32) (y4 : Int32) (y5 : Int32) (y6 : Int32) (S2 : MS), out = .inl (.inl (y0, y1, y2, y3, y4, y5, y6, S2)) → ∀ (H1 : Heap) (locs1 : List Loc) (ls1 : Array Slot), ST D cy ad A s.heap (ZN n0 s.heap.size) S2 H1 locs1 → lv_has ls1 11 [(0, .ref (ad y0)), (1, .int y1), (2, .int y2), (3, .int y3), (4, .int y4), (5, .int y5), (6, .int y6)] → W p l e rmX10_drawInto s m args below meth c H1 locs1 0 0 (MQ below (QcM D cy ad A n0 S' (some (.int r))) args s 0 0 A) (F0 m 18 ls1 [])) (Kh1 : ∀ (y0 : Nat) (y1 : Int32) (y2 : Int32) (y3 : Int32) (y4 : Int32) (y5 : Int32) (y6 : Int32) (y7 : Int32) (S2 : MS), out = .inl (.inr (.inl (y0, y1, y2, y3, y4, y5, y6, y7, S2))) → ∀ (H1 : Heap) (locs1 : List Loc) (ls1 : Array Slot), ST D cy ad A s.heap (ZN n0 s.heap.size) S2 H1 locs1 → lv_has ls1 11 [(0, .ref (ad y0)), (1, .int y1), (3, .int y2), (5, .int y3), (6, .int y4), (7, .int y5), (8, .int y6), (9, .int y7)] → W p l e rmX10_drawInto s m args below meth c H1 locs1 0 0 (MQ below (QcM D cy ad A n0 S' (some (.int r))) args s 0 0 A) (F0 m 129 ls1 [])) (Kh2 : ∀ (y0 : Nat) (y1 : Int32) (y2 : Int32) (y3 : Int32) (y4 : Int32) (y5 : Int32) (y6 : Int32) (y7 : Int32) (y8 : Int32) (S2 : MS), out = .inl (.inr (.inr (y0, y1, y2, y3, y4, y5, y6, y7, y8, S2))) → ∀ (H1 : Heap) (locs1 : List Loc) (ls1 : Array Slot), ST D cy ad A s.heap (ZN n0 s.heap.size) S2 H1 locs1 → lv_has ls1 11 [(0, .ref (ad y0)), (1, .int y1), (3, .int y2), (5, .int y3), (6, .int y4), (7, .int y5), (8, .int y6), (9, .int y7), (10, .int y8)] → W p l e rmX10_drawInto s m args below meth c H1 locs1 0 0 (MQ below (QcM D cy ad A n0 S' (some (.int r))) args s 0 0 A) (F0 m 139 ls1 [])) : W p l e rmX10_drawInto s m args below meth c H locs 0 0 (MQ below (QcM D cy ad A n0 S' (some (.int r))) args s 0 0 A) (F0 m 66 ls [.int z0]) := by
  unfold bX10_drawInto_66 at hF
  obtain ⟨hx, hb, -, hown, -, hts, -⟩ := id C0
  refine lv_istore (lv' := [(4, .int z0), (0, .ref (ad x0)), (1, .int x1), (2, .int x2), (3, .int x3), (5, .int x5), (6, .int x6), (7, .int x7)]) hx hb dX10_drawInto_66 hl (by decide) rfl (fun ls hl => ?_)
  refine lv_iload hx hb dX10_drawInto_68 (lv_at hl 7 rfl) ?_
  refine lv_iload hx hb dX10_drawInto_70 (lv_at hl 5 rfl) ?_
  refine lv_icmp_ge (tgt := 80) hx hb dX10_drawInto_72 (by decide) (fun hc => ?_) (fun hc => ?_)
  · have hF := oi_t hc hF
    refine lv_iload hx hb dX10_drawInto_80 (lv_at hl 5 rfl) ?_
    exact wX10_drawInto_82 ad A C0 M hr hF (lv_sub hl [1, 2, 3, 4, 0, 6] rfl) Kr Kh0 Kh1 Kh2
  · have hF := oi_f hc hF
    refine lv_iload hx hb dX10_drawInto_75 (lv_at hl 7 rfl) ?_
    refine lv_goto (tgt := 82) hx hb dX10_drawInto_77 (by decide) ?_
    exact wX10_drawInto_82 ad A C0 M hr hF (lv_sub hl [1, 2, 3, 4, 0, 6] rfl) Kr Kh0 Kh1 Kh2
set_option maxHeartbeats 4000000 in
set_option maxRecDepth 100000 in
theorem wX10_drawInto_50 {p : Program} {l : Launch} {e : Env} {s : State} {m : MethodId} {args : Array Value} {below : List Frame} {meth : Method} {c : Code} {D : va_G} {cy : Nat → ClassId} (ad : Nat → Nat) (A : Nat → Prop) {S : MS} {S' : MS} {H : Heap} {locs : List Loc} {n0 : Nat} {r : Int32} {out : (((Nat × Int32 × Int32 × Int32 × Int32 × Int32 × Int32 × MS) ⊕ ((Nat × Int32 × Int32 × Int32 × Int32 × Int32 × Int32 × Int32 × MS) ⊕ (Nat × Int32 × Int32 × Int32 × Int32 × Int32 × Int32 × Int32 × Int32 × MS))) ⊕ (Int32 × MS))} {ls : Array Slot} {x0 : Nat} {x1 : Int32} {x2 : Int32} {x3 : Int32} {x4 : Int32} {x5 : Int32} {x6 : Int32} {z0 : Int32} (C0 : CX p s m args meth c RX10 cX10_drawInto 11 D cy) (M : ST D cy ad A s.heap (ZN n0 s.heap.size) S H locs) (hr : meth.sig.returnType = some .int) (hF : bX10_drawInto_50 S x0 x1 x2 x3 x4 x5 x6 z0 = some out) (hl : lv_has ls 11 [(0, .ref (ad x0)), (1, .int x1), (2, .int x2), (3, .int x3), (4, .int x4), (5, .int x5), (6, .int x6)]) (Kr : ∀ r9, out = .inr r9 → r9 = (r, S')) (Kh0 : ∀ (y0 : Nat) (y1 : Int32) (y2 : Int32) (y3 : Int32) (y4 : Int32) (y5 : Int32) (y6 : Int32) (S2 : MS), out = .inl (.inl (y0, y1, y2, y3, y4, y5, y6, S2)) → ∀ (H1 : Heap) (locs1 : List Loc) (ls1 : Array Slot), ST D cy ad A s.heap (ZN n0 s.heap.size) S2 H1 locs1 → lv_has ls1 11 [(0, .ref (ad y0)), (1, .int y1), (2, .int y2), (3, .int y3), (4, .int y4), (5, .int y5), (6, .int y6)] → W p l e rmX10_drawInto s m args below meth c H1 locs1 0 0 (MQ below (QcM D cy ad A n0 S' (some (.int r))) args s 0 0 A) (F0 m 18 ls1 [])) (Kh1 : ∀ (y0 : Nat) (y1 : Int32) (y2 : Int32) (y3 : Int32) (y4 : Int32) (y5 : Int32) (y6 : Int32) (y7 : Int32) (S2 : MS), out = .inl (.inr (.inl (y0, y1, y2, y3, y4, y5, y6, y7, S2))) → ∀ (H1 : Heap) (locs1 : List Loc) (ls1 : Array Slot), ST D cy ad A s.heap (ZN n0 s.heap.size) S2 H1 locs1 → lv_has ls1 11 [(0, .ref (ad y0)), (1, .int y1), (3, .int y2), (5, .int y3), (6, .int y4), (7, .int y5), (8, .int y6), (9, .int y7)] → W p l e rmX10_drawInto s m args below meth c H1 locs1 0 0 (MQ below (QcM D cy ad A n0 S' (some (.int r))) args s 0 0 A) (F0 m 129 ls1 [])) (Kh2 : ∀ (y0 : Nat) (y1 : Int32) (y2 : Int32) (y3 : Int32) (y4 : Int32) (y5 : Int32) (y6 : Int32) (y7 : Int32) (y8 : Int32) (S2 : MS), out = .inl (.inr (.inr (y0, y1, y2, y3, y4, y5, y6, y7, y8, S2))) → ∀ (H1 : Heap) (locs1 : List Loc) (ls1 : Array Slot), ST D cy ad A s.heap (ZN n0 s.heap.size) S2 H1 locs1 → lv_has ls1 11 [(0, .ref (ad y0)), (1, .int y1), (3, .int y2), (5, .int y3), (6, .int y4), (7, .int y5), (8, .int y6), (9, .int y7), (10, .int y8)] → W p l e rmX10_drawInto s m args below meth c H1 locs1 0 0 (MQ below (QcM D cy ad A n0 S' (some (.int r))) args s 0 0 A) (F0 m 139 ls1 [])) : W p l e rmX10_drawInto s m args below meth c H locs 0 0 (MQ below (QcM D cy ad A n0 S' (some (.int r))) args s 0 0 A) (F0 m 50 ls [.int z0]) := by
  unfold bX10_drawInto_50 at hF
  obtain ⟨hx, hb, -, hown, -, hts, -⟩ := id C0
  refine lv_istore (lv' := [(7, .int z0), (0, .ref (ad x0)), (1, .int x1), (2, .int x2), (3, .int x3), (4, .int x4), (5, .int x5), (6, .int x6)]) hx hb dX10_drawInto_50 hl (by decide) rfl (fun ls hl => ?_)
  refine lv_iload hx hb dX10_drawInto_52 (lv_at hl 0 rfl) ?_
  refine lv_iload hx hb dX10_drawInto_54 (lv_at hl 6 rfl) ?_
  refine lv_icmp_ge (tgt := 64) hx hb dX10_drawInto_56 (by decide) (fun hc => ?_) (fun hc => ?_)
  · have hF := oi_t hc hF
    refine lv_iload hx hb dX10_drawInto_64 (lv_at hl 5 rfl) ?_
    exact wX10_drawInto_66 ad A C0 M hr hF (lv_sub hl [1, 2, 3, 4, 6, 7, 0] rfl) Kr Kh0 Kh1 Kh2
  · have hF := oi_f hc hF
    refine lv_iload hx hb dX10_drawInto_59 (lv_at hl 7 rfl) ?_
    refine lv_goto (tgt := 66) hx hb dX10_drawInto_61 (by decide) ?_
    exact wX10_drawInto_66 ad A C0 M hr hF (lv_sub hl [1, 2, 3, 4, 6, 7, 0] rfl) Kr Kh0 Kh1 Kh2
set_option maxHeartbeats 4000000 in
set_option maxRecDepth 100000 in
theorem wX10_drawInto_18 {p : Program} {l : Launch} {e : Env} {s : State} {m : MethodId} {args : Array Value} {below : List Frame} {meth : Method} {c : Code} {D : va_G} {cy : Nat → ClassId} (ad : Nat → Nat) (A : Nat → Prop) {S : MS} {S' : MS} {H : Heap} {locs : List Loc} {n0 : Nat} {r : Int32} {out : (((Nat × Int32 × Int32 × Int32 × Int32 × Int32 × Int32 × MS) ⊕ ((Nat × Int32 × Int32 × Int32 × Int32 × Int32 × Int32 × Int32 × MS) ⊕ (Nat × Int32 × Int32 × Int32 × Int32 × Int32 × Int32 × Int32 × Int32 × MS))) ⊕ (Int32 × MS))} {ls : Array Slot} {x0 : Nat} {x1 : Int32} {x2 : Int32} {x3 : Int32} {x4 : Int32} {x5 : Int32} {x6 : Int32} (C0 : CX p s m args meth c RX10 cX10_drawInto 11 D cy) (M : ST D cy ad A s.heap (ZN n0 s.heap.size) S H locs) (hr : meth.sig.returnType = some .int) (hF : bX10_drawInto_18 S x0 x1 x2 x3 x4 x5 x6 = some out) (hl : lv_has ls 11 [(0, .ref (ad x0)), (1, .int x1), (2, .int x2), (3, .int x3), (4, .int x4), (5, .int x5), (6, .int x6)]) (Kr : ∀ r9, out = .inr r9 → r9 = (r, S')) (Kh0 : ∀ (y0 : Nat) (y1 : Int32) (y2 : Int32) (y3 : Int32) (y4 : Int32) (y5 : Int32) (y6 : Int32) (S2 : MS), out = .inl (.inl (y0, y1, y2, y3, y4, y5, y6, S2)) → ∀ (H1 : Heap) (locs1 : List Loc) (ls1 : Array Slot), ST D cy ad A s.heap (ZN n0 s.heap.size) S2 H1 locs1 → lv_has ls1 11 [(0, .ref (ad y0)), (1, .int y1), (2, .int y2), (3, .int y3), (4, .int y4), (5, .int y5), (6, .int y6)] → W p l e rmX10_drawInto s m args below meth c H1 locs1 0 0 (MQ below (QcM D cy ad A n0 S' (some (.int r))) args s 0 0 A) (F0 m 18 ls1 [])) (Kh1 : ∀ (y0 : Nat) (y1 : Int32) (y2 : Int32) (y3 : Int32) (y4 : Int32) (y5 : Int32) (y6 : Int32) (y7 : Int32) (S2 : MS), out = .inl (.inr (.inl (y0, y1, y2, y3, y4, y5, y6, y7, S2))) → ∀ (H1 : Heap) (locs1 : List Loc) (ls1 : Array Slot), ST D cy ad A s.heap (ZN n0 s.heap.size) S2 H1 locs1 → lv_has ls1 11 [(0, .ref (ad y0)), (1, .int y1), (3, .int y2), (5, .int y3), (6, .int y4), (7, .int y5), (8, .int y6), (9, .int y7)] → W p l e rmX10_drawInto s m args below meth c H1 locs1 0 0 (MQ below (QcM D cy ad A n0 S' (some (.int r))) args s 0 0 A) (F0 m 129 ls1 [])) (Kh2 : ∀ (y0 : Nat) (y1 : Int32) (y2 : Int32) (y3 : Int32) (y4 : Int32) (y5 : Int32) (y6 : Int32) (y7 : Int32) (y8 : Int32) (S2 : MS), out = .inl (.inr (.inr (y0, y1, y2, y3, y4, y5, y6, y7, y8, S2))) → ∀ (H1 : Heap) (locs1 : List Loc) (ls1 : Array Slot), ST D cy ad A s.heap (ZN n0 s.heap.size) S2 H1 locs1 → lv_has ls1 11 [(0, .ref (ad y0)), (1, .int y1), (3, .int y2), (5, .int y3), (6, .int y4), (7, .int y5), (8, .int y6), (9, .int y7), (10, .int y8)] → W p l e rmX10_drawInto s m args below meth c H1 locs1 0 0 (MQ below (QcM D cy ad A n0 S' (some (.int r))) args s 0 0 A) (F0 m 139 ls1 [])) : W p l e rmX10_drawInto s m args below meth c H locs 0 0 (MQ below (QcM D cy ad A n0 S' (some (.int r))) args s 0 0 A) (F0 m 18 ls []) := by
  unfold bX10_drawInto_18 at hF
  obtain ⟨hx, hb, -, hown, -, hts, -⟩ := id C0
  refine lv_iload hx hb dX10_drawInto_18 (lv_at hl 6 rfl) ?_
  refine lv_bipush (v := (12 : Int32)) hx hb dX10_drawInto_20 (by decide) ?_
  refine lv_icmp_ge (tgt := 90) hx hb dX10_drawInto_22 (by decide) (fun hc => ?_) (fun hc => ?_)
  · have hF := oi_t hc hF
    refine lv_iload hx hb dX10_drawInto_90 (lv_at hl 5 rfl) ?_
    refine lv_ldcw (v := (1000000 : Int32)) hx hb hown (hts _ (uw_of 1483 (by decide +kernel) rfl)) dX10_drawInto_92 ?_
    refine lv_icmp_ne (tgt := 102) hx hb dX10_drawInto_95 (by decide) (fun hc => ?_) (fun hc => ?_)
    · have hF := oi_f hc hF
      refine lv_iload hx hb dX10_drawInto_102 (lv_at hl 4 rfl) ?_
      refine lv_istore (lv' := [(6, .int x4), (0, .ref (ad x0)), (1, .int x1), (2, .int x2), (3, .int x3), (4, .int x4), (5, .int x5)]) hx hb dX10_drawInto_104 hl (by decide) rfl (fun ls hl => ?_)
      refine lv_iconst (v := (5 : Int32)) hx hb dX10_drawInto_106 (by decide) ?_
      refine lv_istore (lv' := [(7, .int (5 : Int32)), (6, .int x4), (0, .ref (ad x0)), (1, .int x1), (2, .int x2), (3, .int x3), (4, .int x4), (5, .int x5)]) hx hb dX10_drawInto_107 hl (by decide) rfl (fun ls hl => ?_)
      refine lv_iload hx hb dX10_drawInto_109 (lv_at hl 7 rfl) ?_
      refine lv_istore (lv' := [(8, .int x5), (7, .int (5 : Int32)), (6, .int x4), (0, .ref (ad x0)), (1, .int x1), (2, .int x2), (3, .int x3), (4, .int x4), (5, .int x5)]) hx hb dX10_drawInto_111 hl (by decide) rfl (fun ls hl => ?_)
      refine lv_aload_n hx hb dX10_drawInto_113 rfl (lv_at hl 3 rfl) ?_
      obtain ⟨v114, hv, hF⟩ := ob hF
      refine k_getP C0 M.1 hv fl_X10_83 dX10_drawInto_114 ?_
      refine lv_bipush (v := (12 : Int32)) hx hb dX10_drawInto_117 (by decide) ?_
      refine lv_iload_n hx hb dX10_drawInto_119 rfl (lv_at hl 4 rfl) ?_
      refine lv_imul hx hb dX10_drawInto_120 ?_
      refine lv_iload_n hx hb dX10_drawInto_121 rfl (lv_at hl 5 rfl) ?_
      refine lv_iadd hx hb dX10_drawInto_122 ?_
      refine lv_iload hx hb dX10_drawInto_123 (lv_at hl 2 rfl) ?_
      obtain ⟨S125, hv, hF⟩ := ob hF
      refine k_st C0 M hv dX10_drawInto_125 (fun H locs M => ?_)
      refine lv_iload_n hx hb dX10_drawInto_126 rfl (lv_at hl 5 rfl) ?_
      refine lv_istore (lv' := [(9, .int x2), (8, .int x5), (7, .int (5 : Int32)), (6, .int x4), (0, .ref (ad x0)), (1, .int x1), (2, .int x2), (3, .int x3), (4, .int x4), (5, .int x5)]) hx hb dX10_drawInto_127 hl (by decide) rfl (fun ls hl => ?_)
      exact Kh1 _ _ _ _ _ _ _ _ _ (Option.some.inj hF).symm _ _ _ M (lv_sub hl [4, 5, 7, 9, 3, 2, 1, 0] rfl)
    · have hF := oi_t hc hF
      refine lv_ldcw (v := (1000000 : Int32)) hx hb hown (hts _ (uw_of 1483 (by decide +kernel) rfl)) dX10_drawInto_98 ?_
      obtain ⟨rfl, rfl⟩ := Prod.mk.inj (Kr _ (Option.some.inj hF).symm)
      exact rt_MI C0 M hr dX10_drawInto_101
  · have hF := oi_f hc hF
    refine lv_aload_n hx hb dX10_drawInto_25 rfl (lv_at hl 0 rfl) ?_
    refine lv_iload_n hx hb dX10_drawInto_26 rfl (lv_at hl 2 rfl) ?_
    refine lv_iload hx hb dX10_drawInto_27 (lv_at hl 6 rfl) ?_
    obtain ⟨_, hrec, hF⟩ := ob hF
    obtain ⟨v29, hcl, hF⟩ := ob hF
    refine go_SI (r_V (rest := []) (As := [.int x2, .int x6]) C0 cb_X10_316 M.1 hrec (tX10_isLet l D cy ad A hcl) (pre_R C0 M.1) hl dX10_drawInto_29 rfl (Nat.le_of_ble_eq_true rfl) ⟨rfl, rfl⟩ ⟨Nat.le_of_ble_eq_true rfl, Nat.le_of_ble_eq_true rfl⟩ ⟨Nat.le_of_ble_eq_true rfl, Nat.le_of_ble_eq_true rfl⟩ rfl) ?_
    refine lv_if_eq (tgt := 47) hx hb dX10_drawInto_32 (by decide) (fun hc => ?_) (fun hc => ?_)
    · have hF := oi_t hc hF
      refine lv_ldcw (v := (1000000 : Int32)) hx hb hown (hts _ (uw_of 1483 (by decide +kernel) rfl)) dX10_drawInto_47 ?_
      exact wX10_drawInto_50 ad A C0 M hr hF (lv_sub hl [0, 1, 2, 3, 4, 5, 6] rfl) Kr Kh0 Kh1 Kh2
    · have hF := oi_f hc hF
      refine lv_aload_n hx hb dX10_drawInto_35 rfl (lv_at hl 0 rfl) ?_
      refine lv_iload_n hx hb dX10_drawInto_36 rfl (lv_at hl 2 rfl) ?_
      refine lv_iload hx hb dX10_drawInto_37 (lv_at hl 6 rfl) ?_
      refine lv_iconst (v := (5 : Int32)) hx hb dX10_drawInto_39 (by decide) ?_
      refine lv_iload_n hx hb dX10_drawInto_40 rfl (lv_at hl 3 rfl) ?_
      obtain ⟨_, hrec, hF⟩ := ob hF
      obtain ⟨v41, hcl, hF⟩ := ob hF
      refine go_SI (r_V (rest := []) (As := [.int x2, .int x6, .int (5 : Int32), .int x3]) C0 cb_X10_319 M.1 hrec (tX10_bendsAt l D cy ad A hcl) (pre_R C0 M.1) hl dX10_drawInto_41 rfl (Nat.le_of_ble_eq_true rfl) ⟨rfl, rfl⟩ ⟨Nat.le_of_ble_eq_true rfl, Nat.le_of_ble_eq_true rfl⟩ ⟨Nat.le_of_ble_eq_true rfl, Nat.le_of_ble_eq_true rfl⟩ rfl) ?_
      refine lv_goto (tgt := 50) hx hb dX10_drawInto_44 (by decide) ?_
      exact wX10_drawInto_50 ad A C0 M hr hF (lv_sub hl [0, 1, 2, 3, 4, 5, 6] rfl) Kr Kh0 Kh1 Kh2
set_option maxHeartbeats 4000000 in
set_option maxRecDepth 100000 in
theorem wX10_drawInto_129 {p : Program} {l : Launch} {e : Env} {s : State} {m : MethodId} {args : Array Value} {below : List Frame} {meth : Method} {c : Code} {D : va_G} {cy : Nat → ClassId} (ad : Nat → Nat) (A : Nat → Prop) {S : MS} {S' : MS} {H : Heap} {locs : List Loc} {n0 : Nat} {r : Int32} {out : (((Nat × Int32 × Int32 × Int32 × Int32 × Int32 × Int32 × MS) ⊕ ((Nat × Int32 × Int32 × Int32 × Int32 × Int32 × Int32 × Int32 × MS) ⊕ (Nat × Int32 × Int32 × Int32 × Int32 × Int32 × Int32 × Int32 × Int32 × MS))) ⊕ (Int32 × MS))} {ls : Array Slot} {x0 : Nat} {x1 : Int32} {x3 : Int32} {x5 : Int32} {x6 : Int32} {x7 : Int32} {x8 : Int32} {x9 : Int32} (C0 : CX p s m args meth c RX10 cX10_drawInto 11 D cy) (M : ST D cy ad A s.heap (ZN n0 s.heap.size) S H locs) (hr : meth.sig.returnType = some .int) (hF : bX10_drawInto_129 S x0 x1 x3 x5 x6 x7 x8 x9 = some out) (hl : lv_has ls 11 [(0, .ref (ad x0)), (1, .int x1), (3, .int x3), (5, .int x5), (6, .int x6), (7, .int x7), (8, .int x8), (9, .int x9)]) (Kr : ∀ r9, out = .inr r9 → r9 = (r, S')) (Kh0 : ∀ (y0 : Nat) (y1 : Int32) (y2 : Int32) (y3 : Int32) (y4 : Int32) (y5 : Int32) (y6 : Int32) (S2 : MS), out = .inl (.inl (y0, y1, y2, y3, y4, y5, y6, S2)) → ∀ (H1 : Heap) (locs1 : List Loc) (ls1 : Array Slot), ST D cy ad A s.heap (ZN n0 s.heap.size) S2 H1 locs1 → lv_has ls1 11 [(0, .ref (ad y0)), (1, .int y1), (2, .int y2), (3, .int y3), (4, .int y4), (5, .int y5), (6, .int y6)] → W p l e rmX10_drawInto s m args below meth c H1 locs1 0 0 (MQ below (QcM D cy ad A n0 S' (some (.int r))) args s 0 0 A) (F0 m 18 ls1 [])) (Kh1 : ∀ (y0 : Nat) (y1 : Int32) (y2 : Int32) (y3 : Int32) (y4 : Int32) (y5 : Int32) (y6 : Int32) (y7 : Int32) (S2 : MS), out = .inl (.inr (.inl (y0, y1, y2, y3, y4, y5, y6, y7, S2))) → ∀ (H1 : Heap) (locs1 : List Loc) (ls1 : Array Slot), ST D cy ad A s.heap (ZN n0 s.heap.size) S2 H1 locs1 → lv_has ls1 11 [(0, .ref (ad y0)), (1, .int y1), (3, .int y2), (5, .int y3), (6, .int y4), (7, .int y5), (8, .int y6), (9, .int y7)] → W p l e rmX10_drawInto s m args below meth c H1 locs1 0 0 (MQ below (QcM D cy ad A n0 S' (some (.int r))) args s 0 0 A) (F0 m 129 ls1 [])) (Kh2 : ∀ (y0 : Nat) (y1 : Int32) (y2 : Int32) (y3 : Int32) (y4 : Int32) (y5 : Int32) (y6 : Int32) (y7 : Int32) (y8 : Int32) (S2 : MS), out = .inl (.inr (.inr (y0, y1, y2, y3, y4, y5, y6, y7, y8, S2))) → ∀ (H1 : Heap) (locs1 : List Loc) (ls1 : Array Slot), ST D cy ad A s.heap (ZN n0 s.heap.size) S2 H1 locs1 → lv_has ls1 11 [(0, .ref (ad y0)), (1, .int y1), (3, .int y2), (5, .int y3), (6, .int y4), (7, .int y5), (8, .int y6), (9, .int y7), (10, .int y8)] → W p l e rmX10_drawInto s m args below meth c H1 locs1 0 0 (MQ below (QcM D cy ad A n0 S' (some (.int r))) args s 0 0 A) (F0 m 139 ls1 [])) : W p l e rmX10_drawInto s m args below meth c H locs 0 0 (MQ below (QcM D cy ad A n0 S' (some (.int r))) args s 0 0 A) (F0 m 129 ls []) := by
  unfold bX10_drawInto_129 at hF
  obtain ⟨hx, hb, -, hown, -, hts, -⟩ := id C0
  refine lv_iload hx hb dX10_drawInto_129 (lv_at hl 7 rfl) ?_
  refine lv_iload_n hx hb dX10_drawInto_131 rfl (lv_at hl 2 rfl) ?_
  refine lv_icmp_ge (tgt := 222) hx hb dX10_drawInto_132 (by decide) (fun hc => ?_) (fun hc => ?_)
  · have hF := oi_t hc hF
    refine lv_iload hx hb dX10_drawInto_222 (lv_at hl 3 rfl) ?_
    obtain ⟨rfl, rfl⟩ := Prod.mk.inj (Kr _ (Option.some.inj hF).symm)
    exact rt_MI C0 M hr dX10_drawInto_224
  · have hF := oi_f hc hF
    refine lv_bipush (v := (-2 : Int32)) hx hb dX10_drawInto_135 (by decide) ?_
    refine lv_istore (lv' := [(10, .int (-2 : Int32)), (0, .ref (ad x0)), (1, .int x1), (3, .int x3), (5, .int x5), (6, .int x6), (7, .int x7), (8, .int x8), (9, .int x9)]) hx hb dX10_drawInto_137 hl (by decide) rfl (fun ls hl => ?_)
    exact Kh2 _ _ _ _ _ _ _ _ _ _ (Option.some.inj hF).symm _ _ _ M (lv_sub hl [1, 2, 3, 4, 5, 6, 7, 8, 0] rfl)
set_option maxHeartbeats 4000000 in
set_option maxRecDepth 100000 in
theorem wX10_drawInto_184 {p : Program} {l : Launch} {e : Env} {s : State} {m : MethodId} {args : Array Value} {below : List Frame} {meth : Method} {c : Code} {D : va_G} {cy : Nat → ClassId} (ad : Nat → Nat) (A : Nat → Prop) {S : MS} {S' : MS} {H : Heap} {locs : List Loc} {n0 : Nat} {r : Int32} {out : (((Nat × Int32 × Int32 × Int32 × Int32 × Int32 × Int32 × MS) ⊕ ((Nat × Int32 × Int32 × Int32 × Int32 × Int32 × Int32 × Int32 × MS) ⊕ (Nat × Int32 × Int32 × Int32 × Int32 × Int32 × Int32 × Int32 × Int32 × MS))) ⊕ (Int32 × MS))} {ls : Array Slot} {x0 : Nat} {x1 : Int32} {x3 : Int32} {x5 : Int32} {x6 : Int32} {x9 : Int32} {x10 : Int32} {z0 : Int32} {z1 : Int32} (C0 : CX p s m args meth c RX10 cX10_drawInto 11 D cy) (M : ST D cy ad A s.heap (ZN n0 s.heap.size) S H locs) (hr : meth.sig.returnType = some .int) (hF : bX10_drawInto_184 S x0 x1 x3 x5 x6 x9 x10 z0 z1 = some out) (hl : lv_has ls 11 [(0, .ref (ad x0)), (1, .int x1), (3, .int x3), (5, .int x5), (6, .int x6), (9, .int x9), (10, .int x10)]) (Kr : ∀ r9, out = .inr r9 → r9 = (r, S')) (Kh0 : ∀ (y0 : Nat) (y1 : Int32) (y2 : Int32) (y3 : Int32) (y4 : Int32) (y5 : Int32) (y6 : Int32) (S2 : MS), out = .inl (.inl (y0, y1, y2, y3, y4, y5, y6, S2)) → ∀ (H1 : Heap) (locs1 : List Loc) (ls1 : Array Slot), ST D cy ad A s.heap (ZN n0 s.heap.size) S2 H1 locs1 → lv_has ls1 11 [(0, .ref (ad y0)), (1, .int y1), (2, .int y2), (3, .int y3), (4, .int y4), (5, .int y5), (6, .int y6)] → W p l e rmX10_drawInto s m args below meth c H1 locs1 0 0 (MQ below (QcM D cy ad A n0 S' (some (.int r))) args s 0 0 A) (F0 m 18 ls1 [])) (Kh1 : ∀ (y0 : Nat) (y1 : Int32) (y2 : Int32) (y3 : Int32) (y4 : Int32) (y5 : Int32) (y6 : Int32) (y7 : Int32) (S2 : MS), out = .inl (.inr (.inl (y0, y1, y2, y3, y4, y5, y6, y7, S2))) → ∀ (H1 : Heap) (locs1 : List Loc) (ls1 : Array Slot), ST D cy ad A s.heap (ZN n0 s.heap.size) S2 H1 locs1 → lv_has ls1 11 [(0, .ref (ad y0)), (1, .int y1), (3, .int y2), (5, .int y3), (6, .int y4), (7, .int y5), (8, .int y6), (9, .int y7)] → W p l e rmX10_drawInto s m args below meth c H1 locs1 0 0 (MQ below (QcM D cy ad A n0 S' (some (.int r))) args s 0 0 A) (F0 m 129 ls1 [])) (Kh2 : ∀ (y0 : Nat) (y1 : Int32) (y2 : Int32) (y3 : Int32) (y4 : Int32) (y5 : Int32) (y6 : Int32) (y7 : Int32) (y8 : Int32) (S2 : MS), out = .inl (.inr (.inr (y0, y1, y2, y3, y4, y5, y6, y7, y8, S2))) → ∀ (H1 : Heap) (locs1 : List Loc) (ls1 : Array Slot), ST D cy ad A s.heap (ZN n0 s.heap.size) S2 H1 locs1 → lv_has ls1 11 [(0, .ref (ad y0)), (1, .int y1), (3, .int y2), (5, .int y3), (6, .int y4), (7, .int y5), (8, .int y6), (9, .int y7), (10, .int y8)] → W p l e rmX10_drawInto s m args below meth c H1 locs1 0 0 (MQ below (QcM D cy ad A n0 S' (some (.int r))) args s 0 0 A) (F0 m 139 ls1 [])) : W p l e rmX10_drawInto s m args below meth c H locs 0 0 (MQ below (QcM D cy ad A n0 S' (some (.int r))) args s 0 0 A) (F0 m 184 ls [.int z1, .int z0]) := by
  unfold bX10_drawInto_184 at hF
  obtain ⟨hx, hb, -, hown, -, hts, -⟩ := id C0
  refine lv_isub hx hb dX10_drawInto_184 ?_
  obtain ⟨v185, hv, hF⟩ := ob hF
  have hv := vtI hv
  refine vtopi hv ?_
  refine lv_istore (lv' := [(8, .int v185), (0, .ref (ad x0)), (1, .int x1), (3, .int x3), (5, .int x5), (6, .int x6), (9, .int x9), (10, .int x10)]) hx hb dX10_drawInto_185 hl (by decide) rfl (fun ls hl => ?_)
  refine lv_iload hx hb dX10_drawInto_187 (lv_at hl 5 rfl) ?_
  refine lv_iload hx hb dX10_drawInto_189 (lv_at hl 7 rfl) ?_
  refine lv_iadd hx hb dX10_drawInto_191 ?_
  obtain ⟨v192, hv, hF⟩ := ob hF
  have hv := vtI hv
  refine vtopi hv ?_
  refine lv_istore (lv' := [(6, .int v192), (8, .int v185), (0, .ref (ad x0)), (1, .int x1), (3, .int x3), (5, .int x5), (9, .int x9), (10, .int x10)]) hx hb dX10_drawInto_192 hl (by decide) rfl (fun ls hl => ?_)
  refine lv_iload hx hb dX10_drawInto_194 (lv_at hl 7 rfl) ?_
  refine lv_iconst (v := (2 : Int32)) hx hb dX10_drawInto_196 (by decide) ?_
  refine lv_iadd hx hb dX10_drawInto_197 ?_
  obtain ⟨v198, hv, hF⟩ := ob hF
  have hv := vtI hv
  refine vtopi hv ?_
  refine lv_istore (lv' := [(7, .int v198), (6, .int v192), (8, .int v185), (0, .ref (ad x0)), (1, .int x1), (3, .int x3), (5, .int x5), (9, .int x9), (10, .int x10)]) hx hb dX10_drawInto_198 hl (by decide) rfl (fun ls hl => ?_)
  refine lv_aload_n hx hb dX10_drawInto_200 rfl (lv_at hl 3 rfl) ?_
  obtain ⟨v201, hv, hF⟩ := ob hF
  refine k_getP C0 M.1 hv fl_X10_83 dX10_drawInto_201 ?_
  refine lv_bipush (v := (12 : Int32)) hx hb dX10_drawInto_204 (by decide) ?_
  refine lv_iload_n hx hb dX10_drawInto_206 rfl (lv_at hl 4 rfl) ?_
  refine lv_imul hx hb dX10_drawInto_207 ?_
  refine lv_iload hx hb dX10_drawInto_208 (lv_at hl 7 rfl) ?_
  refine lv_iadd hx hb dX10_drawInto_210 ?_
  refine lv_iconst (v := (1 : Int32)) hx hb dX10_drawInto_211 (by decide) ?_
  refine lv_iadd hx hb dX10_drawInto_212 ?_
  refine lv_iload hx hb dX10_drawInto_213 (lv_at hl 1 rfl) ?_
  obtain ⟨S215, hv, hF⟩ := ob hF
  refine k_st C0 M hv dX10_drawInto_215 (fun H locs M => ?_)
  obtain ⟨v216, hv, hF⟩ := ob hF
  refine lv_iinc (v := v216) (lv' := [(9, .int v216), (7, .int v198), (6, .int v192), (8, .int v185), (0, .ref (ad x0)), (1, .int x1), (3, .int x3), (5, .int x5), (10, .int x10)]) hx hb dX10_drawInto_216 hl (k := 7) rfl (by rw [← vtI hv]; rfl) (by decide) rfl (fun ls hl => ?_)
  refine lv_goto (tgt := 129) hx hb dX10_drawInto_219 (by decide) ?_
  exact Kh1 _ _ _ _ _ _ _ _ _ (Option.some.inj hF).symm _ _ _ M (lv_sub hl [4, 5, 6, 7, 2, 1, 3, 0] rfl)
set_option maxHeartbeats 4000000 in
set_option maxRecDepth 100000 in
theorem wX10_drawInto_139 {p : Program} {l : Launch} {e : Env} {s : State} {m : MethodId} {args : Array Value} {below : List Frame} {meth : Method} {c : Code} {D : va_G} {cy : Nat → ClassId} (ad : Nat → Nat) (A : Nat → Prop) {S : MS} {S' : MS} {H : Heap} {locs : List Loc} {n0 : Nat} {r : Int32} {out : (((Nat × Int32 × Int32 × Int32 × Int32 × Int32 × Int32 × MS) ⊕ ((Nat × Int32 × Int32 × Int32 × Int32 × Int32 × Int32 × Int32 × MS) ⊕ (Nat × Int32 × Int32 × Int32 × Int32 × Int32 × Int32 × Int32 × Int32 × MS))) ⊕ (Int32 × MS))} {ls : Array Slot} {x0 : Nat} {x1 : Int32} {x3 : Int32} {x5 : Int32} {x6 : Int32} {x7 : Int32} {x8 : Int32} {x9 : Int32} {x10 : Int32} (C0 : CX p s m args meth c RX10 cX10_drawInto 11 D cy) (M : ST D cy ad A s.heap (ZN n0 s.heap.size) S H locs) (hr : meth.sig.returnType = some .int) (hF : bX10_drawInto_139 S x0 x1 x3 x5 x6 x7 x8 x9 x10 = some out) (hl : lv_has ls 11 [(0, .ref (ad x0)), (1, .int x1), (3, .int x3), (5, .int x5), (6, .int x6), (7, .int x7), (8, .int x8), (9, .int x9), (10, .int x10)]) (Kr : ∀ r9, out = .inr r9 → r9 = (r, S')) (Kh0 : ∀ (y0 : Nat) (y1 : Int32) (y2 : Int32) (y3 : Int32) (y4 : Int32) (y5 : Int32) (y6 : Int32) (S2 : MS), out = .inl (.inl (y0, y1, y2, y3, y4, y5, y6, S2)) → ∀ (H1 : Heap) (locs1 : List Loc) (ls1 : Array Slot), ST D cy ad A s.heap (ZN n0 s.heap.size) S2 H1 locs1 → lv_has ls1 11 [(0, .ref (ad y0)), (1, .int y1), (2, .int y2), (3, .int y3), (4, .int y4), (5, .int y5), (6, .int y6)] → W p l e rmX10_drawInto s m args below meth c H1 locs1 0 0 (MQ below (QcM D cy ad A n0 S' (some (.int r))) args s 0 0 A) (F0 m 18 ls1 [])) (Kh1 : ∀ (y0 : Nat) (y1 : Int32) (y2 : Int32) (y3 : Int32) (y4 : Int32) (y5 : Int32) (y6 : Int32) (y7 : Int32) (S2 : MS), out = .inl (.inr (.inl (y0, y1, y2, y3, y4, y5, y6, y7, S2))) → ∀ (H1 : Heap) (locs1 : List Loc) (ls1 : Array Slot), ST D cy ad A s.heap (ZN n0 s.heap.size) S2 H1 locs1 → lv_has ls1 11 [(0, .ref (ad y0)), (1, .int y1), (3, .int y2), (5, .int y3), (6, .int y4), (7, .int y5), (8, .int y6), (9, .int y7)] → W p l e rmX10_drawInto s m args below meth c H1 locs1 0 0 (MQ below (QcM D cy ad A n0 S' (some (.int r))) args s 0 0 A) (F0 m 129 ls1 [])) (Kh2 : ∀ (y0 : Nat) (y1 : Int32) (y2 : Int32) (y3 : Int32) (y4 : Int32) (y5 : Int32) (y6 : Int32) (y7 : Int32) (y8 : Int32) (S2 : MS), out = .inl (.inr (.inr (y0, y1, y2, y3, y4, y5, y6, y7, y8, S2))) → ∀ (H1 : Heap) (locs1 : List Loc) (ls1 : Array Slot), ST D cy ad A s.heap (ZN n0 s.heap.size) S2 H1 locs1 → lv_has ls1 11 [(0, .ref (ad y0)), (1, .int y1), (3, .int y2), (5, .int y3), (6, .int y4), (7, .int y5), (8, .int y6), (9, .int y7), (10, .int y8)] → W p l e rmX10_drawInto s m args below meth c H1 locs1 0 0 (MQ below (QcM D cy ad A n0 S' (some (.int r))) args s 0 0 A) (F0 m 139 ls1 [])) : W p l e rmX10_drawInto s m args below meth c H locs 0 0 (MQ below (QcM D cy ad A n0 S' (some (.int r))) args s 0 0 A) (F0 m 139 ls []) := by
  unfold bX10_drawInto_139 at hF
  obtain ⟨hx, hb, -, hown, -, hts, -⟩ := id C0
  refine lv_aload_n hx hb dX10_drawInto_139 rfl (lv_at hl 0 rfl) ?_
  refine lv_iload hx hb dX10_drawInto_140 (lv_at hl 7 rfl) ?_
  refine lv_iload hx hb dX10_drawInto_142 (lv_at hl 4 rfl) ?_
  refine lv_iload hx hb dX10_drawInto_144 (lv_at hl 8 rfl) ?_
  refine lv_iload hx hb dX10_drawInto_146 (lv_at hl 5 rfl) ?_
  refine lv_iload hx hb dX10_drawInto_148 (lv_at hl 6 rfl) ?_
  obtain ⟨_, hrec, hF⟩ := ob hF
  obtain ⟨v150, hcl, hF⟩ := ob hF
  refine go_SI (r_V (rest := []) (As := [.int x9, .int x6, .int x10, .int x7, .int x8]) C0 cb_X10_327 M.1 hrec (tX10_goesOn l D cy ad A hcl) (pre_R C0 M.1) hl dX10_drawInto_150 rfl (Nat.le_of_ble_eq_true rfl) ⟨rfl, rfl⟩ ⟨Nat.le_of_ble_eq_true rfl, Nat.le_of_ble_eq_true rfl⟩ ⟨Nat.le_of_ble_eq_true rfl, Nat.le_of_ble_eq_true rfl⟩ rfl) ?_
  refine lv_if_ne (tgt := 162) hx hb dX10_drawInto_153 (by decide) (fun hc => ?_) (fun hc => ?_)
  · have hF := oi_f hc hF
    refine lv_iload hx hb dX10_drawInto_162 (lv_at hl 6 rfl) ?_
    refine lv_iload hx hb dX10_drawInto_164 (lv_at hl 5 rfl) ?_
    refine lv_iconst (v := (5 : Int32)) hx hb dX10_drawInto_166 (by decide) ?_
    refine lv_icmp_ne (tgt := 174) hx hb dX10_drawInto_167 (by decide) (fun hc => ?_) (fun hc => ?_)
    · have hF := oi_f hc hF
      refine lv_iload hx hb dX10_drawInto_174 (lv_at hl 8 rfl) ?_
      refine lv_iconst (v := (2 : Int32)) hx hb dX10_drawInto_176 (by decide) ?_
      refine lv_iadd hx hb dX10_drawInto_177 ?_
      refine lv_iload hx hb dX10_drawInto_178 (lv_at hl 5 rfl) ?_
      refine lv_isub hx hb dX10_drawInto_180 ?_
      obtain ⟨v181, hcl, hF⟩ := ob hF
      refine go_SI (r_S (rest := [.int x8]) (As := [.int ((x10 + (2 : Int32)) - x7)]) C0 cb_X10_195 (tX10_sizeOf l D cy ad hcl) (pre_S C0) hl dX10_drawInto_181 rfl (Nat.le_of_ble_eq_true rfl) ⟨rfl, rfl⟩ ⟨Nat.le_of_ble_eq_true rfl, Nat.le_of_ble_eq_true rfl⟩ ⟨Nat.le_of_ble_eq_true rfl, Nat.le_of_ble_eq_true rfl⟩ rfl) ?_
      exact wX10_drawInto_184 ad A C0 M hr hF (lv_sub hl [0, 1, 2, 3, 4, 7, 8] rfl) Kr Kh0 Kh1 Kh2
    · have hF := oi_t hc hF
      refine lv_iconst (v := (0 : Int32)) hx hb dX10_drawInto_170 (by decide) ?_
      refine lv_goto (tgt := 184) hx hb dX10_drawInto_171 (by decide) ?_
      exact wX10_drawInto_184 ad A C0 M hr hF (lv_sub hl [0, 1, 2, 3, 4, 7, 8] rfl) Kr Kh0 Kh1 Kh2
  · have hF := oi_t hc hF
    obtain ⟨v156, hv, hF⟩ := ob hF
    refine lv_iinc (v := v156) (lv' := [(10, .int v156), (0, .ref (ad x0)), (1, .int x1), (3, .int x3), (5, .int x5), (6, .int x6), (7, .int x7), (8, .int x8), (9, .int x9)]) hx hb dX10_drawInto_156 hl (k := 8) rfl (by rw [← vtI hv]; rfl) (by decide) rfl (fun ls hl => ?_)
    refine lv_goto (tgt := 139) hx hb dX10_drawInto_159 (by decide) ?_
    exact Kh2 _ _ _ _ _ _ _ _ _ _ (Option.some.inj hF).symm _ _ _ M (lv_sub hl [1, 2, 3, 4, 5, 6, 7, 8, 0] rfl)
set_option maxHeartbeats 4000000 in
set_option maxRecDepth 100000 in
theorem tX10_drawInto (l : Launch) (D : va_G) (cy : Nat → ClassId) (ad : Nat → Nat) (A : Nat → Prop) {S S' : MS} {a0 : Nat} {a1 : Int32} {a2 : Int32} {a3 : Int32} {r : Int32} (h : fX10_drawInto S a0 a1 a2 a3 = some (r, S')) : Met l yX10_drawInto [Cond.code yX10_drawInto cX10_drawInto 11 (some .int)] rmX10_drawInto (PcR D cy ad A S [.ref (ad a0), .int a1, .int a2, .int a3]) (QcM D cy ad A (m_n S) S' (some (.int r))) 0 0 A := by
  refine met_M (by decide +kernel) cw_X10_drawInto (Nat.le_of_ble_eq_true rfl) ?_
  intro p e s m args below meth c ls C0 M hr hin hl
  have hl : lv_has ls 11 [(0, .ref (ad a0)), (1, .int a1), (2, .int a2), (3, .int a3)] := hl
  have key := lim_walk (step := sX10_drawInto) (fun (q : ((Nat × Int32 × Int32 × Int32 × Int32 × Int32 × Int32 × MS) ⊕ ((Nat × Int32 × Int32 × Int32 × Int32 × Int32 × Int32 × Int32 × MS) ⊕ (Nat × Int32 × Int32 × Int32 × Int32 × Int32 × Int32 × Int32 × Int32 × MS)))) (r9 : (Int32 × MS)) => ∀ (r : Int32) (S' : MS), r9 = (r, S') → ((∀ (y0 : Nat) (y1 : Int32) (y2 : Int32) (y3 : Int32) (y4 : Int32) (y5 : Int32) (y6 : Int32) (S2 : MS), q = (.inl (y0, y1, y2, y3, y4, y5, y6, S2)) → ∀ (H1 : Heap) (locs1 : List Loc) (ls1 : Array Slot), ST D cy ad A s.heap (ZN (m_n S) s.heap.size) S2 H1 locs1 → lv_has ls1 11 [(0, .ref (ad y0)), (1, .int y1), (2, .int y2), (3, .int y3), (4, .int y4), (5, .int y5), (6, .int y6)] → W p l e rmX10_drawInto s m args below meth c H1 locs1 0 0 (MQ below (QcM D cy ad A (m_n S) S' (some (.int r))) args s 0 0 A) (F0 m 18 ls1 [])) ∧ (∀ (y0 : Nat) (y1 : Int32) (y2 : Int32) (y3 : Int32) (y4 : Int32) (y5 : Int32) (y6 : Int32) (y7 : Int32) (S2 : MS), q = (.inr (.inl (y0, y1, y2, y3, y4, y5, y6, y7, S2))) → ∀ (H1 : Heap) (locs1 : List Loc) (ls1 : Array Slot), ST D cy ad A s.heap (ZN (m_n S) s.heap.size) S2 H1 locs1 → lv_has ls1 11 [(0, .ref (ad y0)), (1, .int y1), (3, .int y2), (5, .int y3), (6, .int y4), (7, .int y5), (8, .int y6), (9, .int y7)] → W p l e rmX10_drawInto s m args below meth c H1 locs1 0 0 (MQ below (QcM D cy ad A (m_n S) S' (some (.int r))) args s 0 0 A) (F0 m 129 ls1 [])) ∧ (∀ (y0 : Nat) (y1 : Int32) (y2 : Int32) (y3 : Int32) (y4 : Int32) (y5 : Int32) (y6 : Int32) (y7 : Int32) (y8 : Int32) (S2 : MS), q = (.inr (.inr (y0, y1, y2, y3, y4, y5, y6, y7, y8, S2))) → ∀ (H1 : Heap) (locs1 : List Loc) (ls1 : Array Slot), ST D cy ad A s.heap (ZN (m_n S) s.heap.size) S2 H1 locs1 → lv_has ls1 11 [(0, .ref (ad y0)), (1, .int y1), (3, .int y2), (5, .int y3), (6, .int y4), (7, .int y5), (8, .int y6), (9, .int y7), (10, .int y8)] → W p l e rmX10_drawInto s m args below meth c H1 locs1 0 0 (MQ below (QcM D cy ad A (m_n S) S' (some (.int r))) args s 0 0 A) (F0 m 139 ls1 [])))) ?_
  · unfold fX10_drawInto at h
    cases hs0 : bX10_drawInto_0 S a0 a1 a2 a3 with
    | none => rw [hs0] at h; cases h
    | some out =>
      rw [hs0] at h
      refine wX10_drawInto_0 ad A C0 M hr hs0 hl (fun r9 hr9 => ?_) ?_ ?_ ?_
      · subst hr9; exact Option.some.inj h
      · intro y0 y1 y2 y3 y4 y5 y6 y7 hq; subst hq; exact (key _ _ h _ _ rfl).1 _ _ _ _ _ _ _ _ rfl
      · intro y0 y1 y2 y3 y4 y5 y6 y7 y8 hq; subst hq; exact (key _ _ h _ _ rfl).2.1 _ _ _ _ _ _ _ _ _ rfl
      · intro y0 y1 y2 y3 y4 y5 y6 y7 y8 y9 hq; subst hq; exact (key _ _ h _ _ rfl).2.2 _ _ _ _ _ _ _ _ _ _ rfl
  · intro q r9 out hst hre hin9
    intro r S' er; subst er
    refine ⟨?_, ?_, ?_⟩
    · intro y0 y1 y2 y3 y4 y5 y6 y7 hq H1 locs1 ls1 M hl
      subst hq
      exact wX10_drawInto_18 ad A C0 M hr hst hl hre (fun k0 k1 k2 k3 k4 k5 k6 k7 hk => (hin9 _ hk _ _ rfl).1 _ _ _ _ _ _ _ _ rfl) (fun k0 k1 k2 k3 k4 k5 k6 k7 k8 hk => (hin9 _ hk _ _ rfl).2.1 _ _ _ _ _ _ _ _ _ rfl) (fun k0 k1 k2 k3 k4 k5 k6 k7 k8 k9 hk => (hin9 _ hk _ _ rfl).2.2 _ _ _ _ _ _ _ _ _ _ rfl)
    · intro y0 y1 y2 y3 y4 y5 y6 y7 y8 hq H1 locs1 ls1 M hl
      subst hq
      exact wX10_drawInto_129 ad A C0 M hr hst hl hre (fun k0 k1 k2 k3 k4 k5 k6 k7 hk => (hin9 _ hk _ _ rfl).1 _ _ _ _ _ _ _ _ rfl) (fun k0 k1 k2 k3 k4 k5 k6 k7 k8 hk => (hin9 _ hk _ _ rfl).2.1 _ _ _ _ _ _ _ _ _ rfl) (fun k0 k1 k2 k3 k4 k5 k6 k7 k8 k9 hk => (hin9 _ hk _ _ rfl).2.2 _ _ _ _ _ _ _ _ _ _ rfl)
    · intro y0 y1 y2 y3 y4 y5 y6 y7 y8 y9 hq H1 locs1 ls1 M hl
      subst hq
      exact wX10_drawInto_139 ad A C0 M hr hst hl hre (fun k0 k1 k2 k3 k4 k5 k6 k7 hk => (hin9 _ hk _ _ rfl).1 _ _ _ _ _ _ _ _ rfl) (fun k0 k1 k2 k3 k4 k5 k6 k7 k8 hk => (hin9 _ hk _ _ rfl).2.1 _ _ _ _ _ _ _ _ _ rfl) (fun k0 k1 k2 k3 k4 k5 k6 k7 k8 k9 hk => (hin9 _ hk _ _ rfl).2.2 _ _ _ _ _ _ _ _ _ _ rfl)
set_option maxHeartbeats 4000000 in
set_option maxRecDepth 100000 in
theorem wX10_layGates_0 {p : Program} {l : Launch} {e : Env} {s : State} {m : MethodId} {args : Array Value} {below : List Frame} {meth : Method} {c : Code} {D : va_G} {cy : Nat → ClassId} (ad : Nat → Nat) (A : Nat → Prop) {S : MS} {S' : MS} {H : Heap} {locs : List Loc} {n0 : Nat} {out : (((Nat × Int32 × Int32 × Int32 × MS) ⊕ (Nat × Int32 × Int32 × Int32 × MS)) ⊕ MS)} {ls : Array Slot} {x0 : Nat} {x1 : Int32} {x2 : Int32} (C0 : CX p s m args meth c RX10 cX10_layGates 6 D cy) (M : ST D cy ad A s.heap (ZN n0 s.heap.size) S H locs) (hr : meth.sig.returnType = none) (hF : bX10_layGates_0 S x0 x1 x2 = some out) (hl : lv_has ls 6 [(0, .ref (ad x0)), (1, .int x1), (2, .int x2)]) (Kr : ∀ r9, out = .inr r9 → r9 = S') (Kh0 : ∀ (y0 : Nat) (y1 : Int32) (y2 : Int32) (y3 : Int32) (S2 : MS), out = .inl (.inl (y0, y1, y2, y3, S2)) → ∀ (H1 : Heap) (locs1 : List Loc) (ls1 : Array Slot), ST D cy ad A s.heap (ZN n0 s.heap.size) S2 H1 locs1 → lv_has ls1 6 [(0, .ref (ad y0)), (1, .int y1), (2, .int y2), (3, .int y3)] → W p l e rmX10_layGates s m args below meth c H1 locs1 0 0 (MQ below (QcM D cy ad A n0 S' (none)) args s 0 0 A) (F0 m 2 ls1 [])) (Kh1 : ∀ (y0 : Nat) (y1 : Int32) (y2 : Int32) (y3 : Int32) (S2 : MS), out = .inl (.inr (y0, y1, y2, y3, S2)) → ∀ (H1 : Heap) (locs1 : List Loc) (ls1 : Array Slot), ST D cy ad A s.heap (ZN n0 s.heap.size) S2 H1 locs1 → lv_has ls1 6 [(0, .ref (ad y0)), (1, .int y1), (2, .int y2), (3, .int y3)] → W p l e rmX10_layGates s m args below meth c H1 locs1 0 0 (MQ below (QcM D cy ad A n0 S' (none)) args s 0 0 A) (F0 m 31 ls1 [])) : W p l e rmX10_layGates s m args below meth c H locs 0 0 (MQ below (QcM D cy ad A n0 S' (none)) args s 0 0 A) (F0 m 0 ls []) := by
  unfold bX10_layGates_0 at hF
  obtain ⟨hx, hb, -, hown, -, hts, -⟩ := id C0
  refine lv_iconst (v := (0 : Int32)) hx hb dX10_layGates_0 (by decide) ?_
  refine lv_istore_n (lv' := [(3, .int (0 : Int32)), (0, .ref (ad x0)), (1, .int x1), (2, .int x2)]) hx hb dX10_layGates_1 rfl hl (by decide) rfl (fun ls hl => ?_)
  exact Kh0 _ _ _ _ _ (Option.some.inj hF).symm _ _ _ M (lv_sub hl [1, 2, 3, 0] rfl)
set_option maxHeartbeats 4000000 in
set_option maxRecDepth 100000 in
theorem wX10_layGates_2 {p : Program} {l : Launch} {e : Env} {s : State} {m : MethodId} {args : Array Value} {below : List Frame} {meth : Method} {c : Code} {D : va_G} {cy : Nat → ClassId} (ad : Nat → Nat) (A : Nat → Prop) {S : MS} {S' : MS} {H : Heap} {locs : List Loc} {n0 : Nat} {out : (((Nat × Int32 × Int32 × Int32 × MS) ⊕ (Nat × Int32 × Int32 × Int32 × MS)) ⊕ MS)} {ls : Array Slot} {x0 : Nat} {x1 : Int32} {x2 : Int32} {x3 : Int32} (C0 : CX p s m args meth c RX10 cX10_layGates 6 D cy) (M : ST D cy ad A s.heap (ZN n0 s.heap.size) S H locs) (hr : meth.sig.returnType = none) (hF : bX10_layGates_2 S x0 x1 x2 x3 = some out) (hl : lv_has ls 6 [(0, .ref (ad x0)), (1, .int x1), (2, .int x2), (3, .int x3)]) (Kr : ∀ r9, out = .inr r9 → r9 = S') (Kh0 : ∀ (y0 : Nat) (y1 : Int32) (y2 : Int32) (y3 : Int32) (S2 : MS), out = .inl (.inl (y0, y1, y2, y3, S2)) → ∀ (H1 : Heap) (locs1 : List Loc) (ls1 : Array Slot), ST D cy ad A s.heap (ZN n0 s.heap.size) S2 H1 locs1 → lv_has ls1 6 [(0, .ref (ad y0)), (1, .int y1), (2, .int y2), (3, .int y3)] → W p l e rmX10_layGates s m args below meth c H1 locs1 0 0 (MQ below (QcM D cy ad A n0 S' (none)) args s 0 0 A) (F0 m 2 ls1 [])) (Kh1 : ∀ (y0 : Nat) (y1 : Int32) (y2 : Int32) (y3 : Int32) (S2 : MS), out = .inl (.inr (y0, y1, y2, y3, S2)) → ∀ (H1 : Heap) (locs1 : List Loc) (ls1 : Array Slot), ST D cy ad A s.heap (ZN n0 s.heap.size) S2 H1 locs1 → lv_has ls1 6 [(0, .ref (ad y0)), (1, .int y1), (2, .int y2), (3, .int y3)] → W p l e rmX10_layGates s m args below meth c H1 locs1 0 0 (MQ below (QcM D cy ad A n0 S' (none)) args s 0 0 A) (F0 m 31 ls1 [])) : W p l e rmX10_layGates s m args below meth c H locs 0 0 (MQ below (QcM D cy ad A n0 S' (none)) args s 0 0 A) (F0 m 2 ls []) := by
  unfold bX10_layGates_2 at hF
  obtain ⟨hx, hb, -, hown, -, hts, -⟩ := id C0
  refine lv_iload_n hx hb dX10_layGates_2 rfl (lv_at hl 3 rfl) ?_
  refine lv_bipush (v := (12 : Int32)) hx hb dX10_layGates_3 (by decide) ?_
  refine lv_icmp_ge (tgt := 29) hx hb dX10_layGates_5 (by decide) (fun hc => ?_) (fun hc => ?_)
  · have hF := oi_t hc hF
    refine lv_iconst (v := (0 : Int32)) hx hb dX10_layGates_29 (by decide) ?_
    refine lv_istore_n (lv' := [(3, .int (0 : Int32)), (0, .ref (ad x0)), (1, .int x1), (2, .int x2)]) hx hb dX10_layGates_30 rfl hl (by decide) rfl (fun ls hl => ?_)
    exact Kh1 _ _ _ _ _ (Option.some.inj hF).symm _ _ _ M (lv_sub hl [1, 2, 3, 0] rfl)
  · have hF := oi_f hc hF
    refine lv_aload_n hx hb dX10_layGates_8 rfl (lv_at hl 0 rfl) ?_
    obtain ⟨v9, hv, hF⟩ := ob hF
    refine k_getP C0 M.1 hv fl_X10_86 dX10_layGates_9 ?_
    refine lv_iload_n hx hb dX10_layGates_12 rfl (lv_at hl 3 rfl) ?_
    refine lv_iconst (v := (0 : Int32)) hx hb dX10_layGates_13 (by decide) ?_
    obtain ⟨S14, hv, hF⟩ := ob hF
    refine k_st C0 M hv dX10_layGates_14 (fun H locs M => ?_)
    refine lv_aload_n hx hb dX10_layGates_15 rfl (lv_at hl 0 rfl) ?_
    obtain ⟨v16, hv, hF⟩ := ob hF
    refine k_getP C0 M.1 hv fl_X10_89 dX10_layGates_16 ?_
    refine lv_iload_n hx hb dX10_layGates_19 rfl (lv_at hl 3 rfl) ?_
    refine lv_bipush (v := (11 : Int32)) hx hb dX10_layGates_20 (by decide) ?_
    obtain ⟨S22, hv, hF⟩ := ob hF
    refine k_st C0 M hv dX10_layGates_22 (fun H locs M => ?_)
    obtain ⟨v23, hv, hF⟩ := ob hF
    refine lv_iinc (v := v23) (lv' := [(3, .int v23), (0, .ref (ad x0)), (1, .int x1), (2, .int x2)]) hx hb dX10_layGates_23 hl (k := 3) rfl (by rw [← vtI hv]; rfl) (by decide) rfl (fun ls hl => ?_)
    refine lv_goto (tgt := 2) hx hb dX10_layGates_26 (by decide) ?_
    exact Kh0 _ _ _ _ _ (Option.some.inj hF).symm _ _ _ M (lv_sub hl [1, 2, 3, 0] rfl)
set_option maxHeartbeats 4000000 in
set_option maxRecDepth 100000 in
theorem wX10_layGates_122 {p : Program} {l : Launch} {e : Env} {s : State} {m : MethodId} {args : Array Value} {below : List Frame} {meth : Method} {c : Code} {D : va_G} {cy : Nat → ClassId} (ad : Nat → Nat) (A : Nat → Prop) {S : MS} {S' : MS} {H : Heap} {locs : List Loc} {n0 : Nat} {out : (((Nat × Int32 × Int32 × Int32 × MS) ⊕ (Nat × Int32 × Int32 × Int32 × MS)) ⊕ MS)} {ls : Array Slot} {x0 : Nat} {x1 : Int32} {x2 : Int32} {x3 : Int32} {z0 : Nat} {z1 : Int32} {z2 : Int32} (C0 : CX p s m args meth c RX10 cX10_layGates 6 D cy) (M : ST D cy ad A s.heap (ZN n0 s.heap.size) S H locs) (hr : meth.sig.returnType = none) (hF : bX10_layGates_122 S x0 x1 x2 x3 z0 z1 z2 = some out) (hl : lv_has ls 6 [(0, .ref (ad x0)), (1, .int x1), (2, .int x2), (3, .int x3)]) (Kr : ∀ r9, out = .inr r9 → r9 = S') (Kh0 : ∀ (y0 : Nat) (y1 : Int32) (y2 : Int32) (y3 : Int32) (S2 : MS), out = .inl (.inl (y0, y1, y2, y3, S2)) → ∀ (H1 : Heap) (locs1 : List Loc) (ls1 : Array Slot), ST D cy ad A s.heap (ZN n0 s.heap.size) S2 H1 locs1 → lv_has ls1 6 [(0, .ref (ad y0)), (1, .int y1), (2, .int y2), (3, .int y3)] → W p l e rmX10_layGates s m args below meth c H1 locs1 0 0 (MQ below (QcM D cy ad A n0 S' (none)) args s 0 0 A) (F0 m 2 ls1 [])) (Kh1 : ∀ (y0 : Nat) (y1 : Int32) (y2 : Int32) (y3 : Int32) (S2 : MS), out = .inl (.inr (y0, y1, y2, y3, S2)) → ∀ (H1 : Heap) (locs1 : List Loc) (ls1 : Array Slot), ST D cy ad A s.heap (ZN n0 s.heap.size) S2 H1 locs1 → lv_has ls1 6 [(0, .ref (ad y0)), (1, .int y1), (2, .int y2), (3, .int y3)] → W p l e rmX10_layGates s m args below meth c H1 locs1 0 0 (MQ below (QcM D cy ad A n0 S' (none)) args s 0 0 A) (F0 m 31 ls1 [])) : W p l e rmX10_layGates s m args below meth c H locs 0 0 (MQ below (QcM D cy ad A n0 S' (none)) args s 0 0 A) (F0 m 122 ls [.int z2, .int z1, .ref (ad z0)]) := by
  unfold bX10_layGates_122 at hF
  obtain ⟨hx, hb, -, hown, -, hts, -⟩ := id C0
  obtain ⟨S122, hv, hF⟩ := ob hF
  refine k_st C0 M hv dX10_layGates_122 (fun H locs M => ?_)
  obtain ⟨v123, hv, hF⟩ := ob hF
  refine lv_iinc (v := v123) (lv' := [(3, .int v123), (0, .ref (ad x0)), (1, .int x1), (2, .int x2)]) hx hb dX10_layGates_123 hl (k := 3) rfl (by rw [← vtI hv]; rfl) (by decide) rfl (fun ls hl => ?_)
  refine lv_goto (tgt := 31) hx hb dX10_layGates_126 (by decide) ?_
  exact Kh1 _ _ _ _ _ (Option.some.inj hF).symm _ _ _ M (lv_sub hl [1, 2, 3, 0] rfl)
set_option maxHeartbeats 4000000 in
set_option maxRecDepth 100000 in
theorem wX10_layGates_31 {p : Program} {l : Launch} {e : Env} {s : State} {m : MethodId} {args : Array Value} {below : List Frame} {meth : Method} {c : Code} {D : va_G} {cy : Nat → ClassId} (ad : Nat → Nat) (A : Nat → Prop) {S : MS} {S' : MS} {H : Heap} {locs : List Loc} {n0 : Nat} {out : (((Nat × Int32 × Int32 × Int32 × MS) ⊕ (Nat × Int32 × Int32 × Int32 × MS)) ⊕ MS)} {ls : Array Slot} {x0 : Nat} {x1 : Int32} {x2 : Int32} {x3 : Int32} (C0 : CX p s m args meth c RX10 cX10_layGates 6 D cy) (M : ST D cy ad A s.heap (ZN n0 s.heap.size) S H locs) (hr : meth.sig.returnType = none) (hF : bX10_layGates_31 S x0 x1 x2 x3 = some out) (hl : lv_has ls 6 [(0, .ref (ad x0)), (1, .int x1), (2, .int x2), (3, .int x3)]) (Kr : ∀ r9, out = .inr r9 → r9 = S') (Kh0 : ∀ (y0 : Nat) (y1 : Int32) (y2 : Int32) (y3 : Int32) (S2 : MS), out = .inl (.inl (y0, y1, y2, y3, S2)) → ∀ (H1 : Heap) (locs1 : List Loc) (ls1 : Array Slot), ST D cy ad A s.heap (ZN n0 s.heap.size) S2 H1 locs1 → lv_has ls1 6 [(0, .ref (ad y0)), (1, .int y1), (2, .int y2), (3, .int y3)] → W p l e rmX10_layGates s m args below meth c H1 locs1 0 0 (MQ below (QcM D cy ad A n0 S' (none)) args s 0 0 A) (F0 m 2 ls1 [])) (Kh1 : ∀ (y0 : Nat) (y1 : Int32) (y2 : Int32) (y3 : Int32) (S2 : MS), out = .inl (.inr (y0, y1, y2, y3, S2)) → ∀ (H1 : Heap) (locs1 : List Loc) (ls1 : Array Slot), ST D cy ad A s.heap (ZN n0 s.heap.size) S2 H1 locs1 → lv_has ls1 6 [(0, .ref (ad y0)), (1, .int y1), (2, .int y2), (3, .int y3)] → W p l e rmX10_layGates s m args below meth c H1 locs1 0 0 (MQ below (QcM D cy ad A n0 S' (none)) args s 0 0 A) (F0 m 31 ls1 [])) : W p l e rmX10_layGates s m args below meth c H locs 0 0 (MQ below (QcM D cy ad A n0 S' (none)) args s 0 0 A) (F0 m 31 ls []) := by
  unfold bX10_layGates_31 at hF
  obtain ⟨hx, hb, -, hown, -, hts, -⟩ := id C0
  refine lv_iload_n hx hb dX10_layGates_31 rfl (lv_at hl 3 rfl) ?_
  refine lv_iload_n hx hb dX10_layGates_32 rfl (lv_at hl 2 rfl) ?_
  refine lv_icmp_ge (tgt := 129) hx hb dX10_layGates_33 (by decide) (fun hc => ?_) (fun hc => ?_)
  · have hF := oi_t hc hF
    obtain rfl := (Kr _ (Option.some.inj hF).symm)
    exact rt_MV C0 M hr dX10_layGates_129
  · have hF := oi_f hc hF
    refine lv_iload_n hx hb dX10_layGates_36 rfl (lv_at hl 1 rfl) ?_
    refine lv_iconst (v := (3 : Int32)) hx hb dX10_layGates_37 (by decide) ?_
    refine lv_iload_n hx hb dX10_layGates_38 rfl (lv_at hl 3 rfl) ?_
    refine lv_imul hx hb dX10_layGates_39 ?_
    refine lv_iadd hx hb dX10_layGates_40 ?_
    obtain ⟨v41, hv, hF⟩ := ob hF
    have hv := vtI hv
    refine vtopi hv ?_
    refine lv_istore (lv' := [(4, .int v41), (0, .ref (ad x0)), (1, .int x1), (2, .int x2), (3, .int x3)]) hx hb dX10_layGates_41 hl (by decide) rfl (fun ls hl => ?_)
    refine lv_aload_n hx hb dX10_layGates_43 rfl (lv_at hl 1 rfl) ?_
    obtain ⟨v44, hv, hF⟩ := ob hF
    refine k_getP C0 M.1 hv fl_X10_131 dX10_layGates_44 ?_
    refine lv_iload hx hb dX10_layGates_47 (lv_at hl 0 rfl) ?_
    obtain ⟨v49, hv, hF⟩ := ob hF
    refine k_ld C0 M.1 hv dX10_layGates_49 ?_
    refine lv_istore (lv' := [(5, .int v49), (4, .int v41), (0, .ref (ad x0)), (1, .int x1), (2, .int x2), (3, .int x3)]) hx hb dX10_layGates_50 hl (by decide) rfl (fun ls hl => ?_)
    refine lv_aload_n hx hb dX10_layGates_52 rfl (lv_at hl 2 rfl) ?_
    obtain ⟨v53, hv, hF⟩ := ob hF
    refine k_getP C0 M.1 hv fl_X10_86 dX10_layGates_53 ?_
    refine lv_iload hx hb dX10_layGates_56 (lv_at hl 0 rfl) ?_
    refine lv_aload_n hx hb dX10_layGates_58 rfl (lv_at hl 2 rfl) ?_
    obtain ⟨v59, hv, hF⟩ := ob hF
    refine k_getP C0 M.1 hv fl_X10_86 dX10_layGates_59 ?_
    refine lv_iload hx hb dX10_layGates_62 (lv_at hl 0 rfl) ?_
    obtain ⟨v64, hv, hF⟩ := ob hF
    refine k_ld C0 M.1 hv dX10_layGates_64 ?_
    refine lv_aload_n hx hb dX10_layGates_65 rfl (lv_at hl 2 rfl) ?_
    obtain ⟨v66, hv, hF⟩ := ob hF
    refine k_getP C0 M.1 hv fl_X10_131 dX10_layGates_66 ?_
    refine lv_iload hx hb dX10_layGates_69 (lv_at hl 1 rfl) ?_
    refine lv_iconst (v := (1 : Int32)) hx hb dX10_layGates_71 (by decide) ?_
    refine lv_iadd hx hb dX10_layGates_72 ?_
    obtain ⟨v73, hv, hF⟩ := ob hF
    refine k_ld C0 M.1 hv dX10_layGates_73 ?_
    obtain ⟨v74, hcl, hF⟩ := ob hF
    refine go_SI (r_S (rest := [.int v49, .ref (ad v53)]) (As := [.int v64, .int v73]) C0 cb_X10_198 (tX10_greater l D cy ad hcl) (pre_S C0) hl dX10_layGates_74 rfl (Nat.le_of_ble_eq_true rfl) ⟨rfl, rfl⟩ ⟨Nat.le_of_ble_eq_true rfl, Nat.le_of_ble_eq_true rfl⟩ ⟨Nat.le_of_ble_eq_true rfl, Nat.le_of_ble_eq_true rfl⟩ rfl) ?_
    obtain ⟨S77, hv, hF⟩ := ob hF
    refine k_st C0 M hv dX10_layGates_77 (fun H locs M => ?_)
    refine lv_aload_n hx hb dX10_layGates_78 rfl (lv_at hl 2 rfl) ?_
    obtain ⟨v79, hv, hF⟩ := ob hF
    refine k_getP C0 M.1 hv fl_X10_89 dX10_layGates_79 ?_
    refine lv_iload hx hb dX10_layGates_82 (lv_at hl 0 rfl) ?_
    refine lv_aload_n hx hb dX10_layGates_84 rfl (lv_at hl 2 rfl) ?_
    obtain ⟨v85, hv, hF⟩ := ob hF
    refine k_getP C0 M.1 hv fl_X10_131 dX10_layGates_85 ?_
    refine lv_iload hx hb dX10_layGates_88 (lv_at hl 1 rfl) ?_
    refine lv_iconst (v := (2 : Int32)) hx hb dX10_layGates_90 (by decide) ?_
    refine lv_iadd hx hb dX10_layGates_91 ?_
    obtain ⟨v92, hv, hF⟩ := ob hF
    refine k_ld C0 M.1 hv dX10_layGates_92 ?_
    refine lv_aload_n hx hb dX10_layGates_93 rfl (lv_at hl 2 rfl) ?_
    obtain ⟨v94, hv, hF⟩ := ob hF
    refine k_getP C0 M.1 hv fl_X10_89 dX10_layGates_94 ?_
    refine lv_iload hx hb dX10_layGates_97 (lv_at hl 0 rfl) ?_
    obtain ⟨v99, hv, hF⟩ := ob hF
    refine k_ld C0 M.1 hv dX10_layGates_99 ?_
    refine lv_icmp_ge (tgt := 115) hx hb dX10_layGates_100 (by decide) (fun hc => ?_) (fun hc => ?_)
    · have hF := oi_t hc hF
      refine lv_aload_n hx hb dX10_layGates_115 rfl (lv_at hl 2 rfl) ?_
      obtain ⟨v116, hv, hF⟩ := ob hF
      refine k_getP C0 M.1 hv fl_X10_89 dX10_layGates_116 ?_
      refine lv_iload hx hb dX10_layGates_119 (lv_at hl 0 rfl) ?_
      obtain ⟨v121, hv, hF⟩ := ob hF
      refine k_ld C0 M.1 hv dX10_layGates_121 ?_
      exact wX10_layGates_122 ad A C0 M hr hF (lv_sub hl [2, 3, 4, 5] rfl) Kr Kh0 Kh1
    · have hF := oi_f hc hF
      refine lv_aload_n hx hb dX10_layGates_103 rfl (lv_at hl 2 rfl) ?_
      obtain ⟨v104, hv, hF⟩ := ob hF
      refine k_getP C0 M.1 hv fl_X10_131 dX10_layGates_104 ?_
      refine lv_iload hx hb dX10_layGates_107 (lv_at hl 1 rfl) ?_
      refine lv_iconst (v := (2 : Int32)) hx hb dX10_layGates_109 (by decide) ?_
      refine lv_iadd hx hb dX10_layGates_110 ?_
      obtain ⟨v111, hv, hF⟩ := ob hF
      refine k_ld C0 M.1 hv dX10_layGates_111 ?_
      refine lv_goto (tgt := 122) hx hb dX10_layGates_112 (by decide) ?_
      exact wX10_layGates_122 ad A C0 M hr hF (lv_sub hl [2, 3, 4, 5] rfl) Kr Kh0 Kh1
set_option maxHeartbeats 4000000 in
set_option maxRecDepth 100000 in
theorem tX10_layGates (l : Launch) (D : va_G) (cy : Nat → ClassId) (ad : Nat → Nat) (A : Nat → Prop) {S S' : MS} {a0 : Nat} {a1 : Int32} {a2 : Int32} (h : fX10_layGates S a0 a1 a2 = some S') : Met l yX10_layGates [Cond.code yX10_layGates cX10_layGates 6 (none)] rmX10_layGates (PcR D cy ad A S [.ref (ad a0), .int a1, .int a2]) (QcM D cy ad A (m_n S) S' (none)) 0 0 A := by
  refine met_M (by decide +kernel) cw_X10_layGates (Nat.le_of_ble_eq_true rfl) ?_
  intro p e s m args below meth c ls C0 M hr hin hl
  have hl : lv_has ls 6 [(0, .ref (ad a0)), (1, .int a1), (2, .int a2)] := hl
  have key := lim_walk (step := sX10_layGates) (fun (q : ((Nat × Int32 × Int32 × Int32 × MS) ⊕ (Nat × Int32 × Int32 × Int32 × MS))) (r9 : MS) => ∀ (S' : MS), r9 = S' → ((∀ (y0 : Nat) (y1 : Int32) (y2 : Int32) (y3 : Int32) (S2 : MS), q = (.inl (y0, y1, y2, y3, S2)) → ∀ (H1 : Heap) (locs1 : List Loc) (ls1 : Array Slot), ST D cy ad A s.heap (ZN (m_n S) s.heap.size) S2 H1 locs1 → lv_has ls1 6 [(0, .ref (ad y0)), (1, .int y1), (2, .int y2), (3, .int y3)] → W p l e rmX10_layGates s m args below meth c H1 locs1 0 0 (MQ below (QcM D cy ad A (m_n S) S' (none)) args s 0 0 A) (F0 m 2 ls1 [])) ∧ (∀ (y0 : Nat) (y1 : Int32) (y2 : Int32) (y3 : Int32) (S2 : MS), q = (.inr (y0, y1, y2, y3, S2)) → ∀ (H1 : Heap) (locs1 : List Loc) (ls1 : Array Slot), ST D cy ad A s.heap (ZN (m_n S) s.heap.size) S2 H1 locs1 → lv_has ls1 6 [(0, .ref (ad y0)), (1, .int y1), (2, .int y2), (3, .int y3)] → W p l e rmX10_layGates s m args below meth c H1 locs1 0 0 (MQ below (QcM D cy ad A (m_n S) S' (none)) args s 0 0 A) (F0 m 31 ls1 [])))) ?_
  · unfold fX10_layGates at h
    cases hs0 : bX10_layGates_0 S a0 a1 a2 with
    | none => rw [hs0] at h; cases h
    | some out =>
      rw [hs0] at h
      refine wX10_layGates_0 ad A C0 M hr hs0 hl (fun r9 hr9 => ?_) ?_ ?_
      · subst hr9; exact Option.some.inj h
      · intro y0 y1 y2 y3 y4 hq; subst hq; exact (key _ _ h _ rfl).1 _ _ _ _ _ rfl
      · intro y0 y1 y2 y3 y4 hq; subst hq; exact (key _ _ h _ rfl).2 _ _ _ _ _ rfl
  · intro q r9 out hst hre hin9
    intro S' er; subst er
    refine ⟨?_, ?_⟩
    · intro y0 y1 y2 y3 y4 hq H1 locs1 ls1 M hl
      subst hq
      exact wX10_layGates_2 ad A C0 M hr hst hl hre (fun k0 k1 k2 k3 k4 hk => (hin9 _ hk _ rfl).1 _ _ _ _ _ rfl) (fun k0 k1 k2 k3 k4 hk => (hin9 _ hk _ rfl).2 _ _ _ _ _ rfl)
    · intro y0 y1 y2 y3 y4 hq H1 locs1 ls1 M hl
      subst hq
      exact wX10_layGates_31 ad A C0 M hr hst hl hre (fun k0 k1 k2 k3 k4 hk => (hin9 _ hk _ rfl).1 _ _ _ _ _ rfl) (fun k0 k1 k2 k3 k4 hk => (hin9 _ hk _ rfl).2 _ _ _ _ _ rfl)
set_option maxHeartbeats 4000000 in
set_option maxRecDepth 100000 in
theorem wX10_drawn_37 {p : Program} {l : Launch} {e : Env} {s : State} {m : MethodId} {args : Array Value} {below : List Frame} {meth : Method} {c : Code} {D : va_G} {cy : Nat → ClassId} (ad : Nat → Nat) (A : Nat → Prop) {S : MS} {S' : MS} {H : Heap} {locs : List Loc} {n0 : Nat} {r : Int32} {out : ((Nat × Int32 × Int32 × Int32 × Int32 × MS) ⊕ (Int32 × MS))} {ls : Array Slot} {x0 : Nat} {x1 : Int32} {x2 : Int32} {x3 : Int32} {x4 : Int32} {z0 : Int32} (C0 : CX p s m args meth c RX10 cX10_drawn 11 D cy) (M : ST D cy ad A s.heap (ZN n0 s.heap.size) S H locs) (hr : meth.sig.returnType = some .int) (hF : bX10_drawn_37 S x0 x1 x2 x3 x4 z0 = some out) (hl : lv_has ls 11 [(0, .ref (ad x0)), (1, .int x1), (2, .int x2), (3, .int x3), (4, .int x4)]) (Kr : ∀ r9, out = .inr r9 → r9 = (r, S')) (Kh0 : ∀ (y0 : Nat) (y1 : Int32) (y2 : Int32) (y3 : Int32) (y4 : Int32) (S2 : MS), out = .inl (y0, y1, y2, y3, y4, S2) → ∀ (H1 : Heap) (locs1 : List Loc) (ls1 : Array Slot), ST D cy ad A s.heap (ZN n0 s.heap.size) S2 H1 locs1 → lv_has ls1 11 [(0, .ref (ad y0)), (3, .int y1), (4, .int y2), (8, .int y3), (9, .int y4)] → W p l e rmX10_drawn s m args below meth c H1 locs1 0 0 (MQ below (QcM D cy ad A n0 S' (some (.int r))) args s 0 0 A) (F0 m 59 ls1 [])) : W p l e rmX10_drawn s m args below meth c H locs 0 0 (MQ below (QcM D cy ad A n0 S' (some (.int r))) args s 0 0 A) (F0 m 37 ls [.int z0]) := by
  unfold bX10_drawn_37 at hF
  obtain ⟨hx, hb, -, hown, -, hts, -⟩ := id C0
  refine lv_istore (lv' := [(7, .int z0), (0, .ref (ad x0)), (1, .int x1), (2, .int x2), (3, .int x3), (4, .int x4)]) hx hb dX10_drawn_37 hl (by decide) rfl (fun ls hl => ?_)
  refine lv_iload hx hb dX10_drawn_39 (lv_at hl 0 rfl) ?_
  refine lv_if_eq (tgt := 132) hx hb dX10_drawn_41 (by decide) (fun hc => ?_) (fun hc => ?_)
  · have hF := oi_t hc hF
    refine lv_iconst (v := (5 : Int32)) hx hb dX10_drawn_132 (by decide) ?_
    refine lv_iload_n hx hb dX10_drawn_133 rfl (lv_at hl 2 rfl) ?_
    refine lv_imul hx hb dX10_drawn_134 ?_
    refine lv_aload_n hx hb dX10_drawn_135 rfl (lv_at hl 1 rfl) ?_
    obtain ⟨v136, hv, hF⟩ := ob hF
    refine k_getP C0 M.1 hv fl_X10_68 dX10_drawn_136 ?_
    refine lv_iload_n hx hb dX10_drawn_139 rfl (lv_at hl 2 rfl) ?_
    obtain ⟨v140, hv, hF⟩ := ob hF
    refine k_ld C0 M.1 hv dX10_drawn_140 ?_
    refine lv_iadd hx hb dX10_drawn_141 ?_
    obtain ⟨v142, hv, hF⟩ := ob hF
    have hv := vtI hv
    refine vtopi hv ?_
    refine lv_istore (lv' := [(8, .int v142), (7, .int z0), (0, .ref (ad x0)), (1, .int x1), (2, .int x2), (3, .int x3), (4, .int x4)]) hx hb dX10_drawn_142 hl (by decide) rfl (fun ls hl => ?_)
    refine lv_aload_n hx hb dX10_drawn_144 rfl (lv_at hl 2 rfl) ?_
    refine lv_iload hx hb dX10_drawn_145 (lv_at hl 0 rfl) ?_
    refine lv_iload_n hx hb dX10_drawn_147 rfl (lv_at hl 5 rfl) ?_
    refine lv_iload hx hb dX10_drawn_148 (lv_at hl 6 rfl) ?_
    obtain ⟨_, hrec, hF⟩ := ob hF
    obtain ⟨v150, S150, hcl, hF⟩ := ob2 hF
    refine go_MI (r_V (rest := []) (As := [.int v142, .int x3, .int x4]) C0 cb_X10_337 M.1 hrec (tX10_drawInto l D cy ad A hcl) (pre_R C0 M.1) hl dX10_drawn_150 rfl (Nat.le_of_ble_eq_true rfl) ⟨rfl, rfl⟩ ⟨Nat.le_of_ble_eq_true rfl, Nat.le_of_ble_eq_true rfl⟩ ⟨Nat.le_of_ble_eq_true rfl, Nat.le_of_ble_eq_true rfl⟩ rfl) M (fun H locs M => ?_)
    refine lv_istore (lv' := [(9, .int v150), (8, .int v142), (7, .int z0), (0, .ref (ad x0)), (1, .int x1), (2, .int x2), (3, .int x3), (4, .int x4)]) hx hb dX10_drawn_153 hl (by decide) rfl (fun ls hl => ?_)
    refine lv_iload hx hb dX10_drawn_155 (lv_at hl 0 rfl) ?_
    refine lv_ldcw (v := (1000000 : Int32)) hx hb hown (hts _ (uw_of 1483 (by decide +kernel) rfl)) dX10_drawn_157 ?_
    refine lv_icmp_ne (tgt := 166) hx hb dX10_drawn_160 (by decide) (fun hc => ?_) (fun hc => ?_)
    · have hF := oi_f hc hF
      refine lv_aload_n hx hb dX10_drawn_166 rfl (lv_at hl 3 rfl) ?_
      obtain ⟨v167, hv, hF⟩ := ob hF
      refine k_getP C0 M.1 hv fl_X10_71 dX10_drawn_167 ?_
      refine lv_iload hx hb dX10_drawn_170 (lv_at hl 1 rfl) ?_
      refine lv_iload_n hx hb dX10_drawn_172 rfl (lv_at hl 5 rfl) ?_
      obtain ⟨S173, hv, hF⟩ := ob hF
      refine k_st C0 M hv dX10_drawn_173 (fun H locs M => ?_)
      refine lv_aload_n hx hb dX10_drawn_174 rfl (lv_at hl 3 rfl) ?_
      obtain ⟨v175, hv, hF⟩ := ob hF
      refine k_getP C0 M.1 hv fl_X10_74 dX10_drawn_175 ?_
      refine lv_iload hx hb dX10_drawn_178 (lv_at hl 1 rfl) ?_
      refine lv_iload_n hx hb dX10_drawn_180 rfl (lv_at hl 6 rfl) ?_
      obtain ⟨S181, hv, hF⟩ := ob hF
      refine k_st C0 M hv dX10_drawn_181 (fun H locs M => ?_)
      refine lv_aload_n hx hb dX10_drawn_182 rfl (lv_at hl 3 rfl) ?_
      obtain ⟨v183, hv, hF⟩ := ob hF
      refine k_getP C0 M.1 hv fl_X10_77 dX10_drawn_183 ?_
      refine lv_iload hx hb dX10_drawn_186 (lv_at hl 1 rfl) ?_
      refine lv_iload hx hb dX10_drawn_188 (lv_at hl 7 rfl) ?_
      obtain ⟨S190, hv, hF⟩ := ob hF
      refine k_st C0 M hv dX10_drawn_190 (fun H locs M => ?_)
      refine lv_aload_n hx hb dX10_drawn_191 rfl (lv_at hl 3 rfl) ?_
      obtain ⟨v192, hv, hF⟩ := ob hF
      refine k_getP C0 M.1 hv fl_X10_80 dX10_drawn_192 ?_
      refine lv_iload hx hb dX10_drawn_195 (lv_at hl 1 rfl) ?_
      refine lv_iload hx hb dX10_drawn_197 (lv_at hl 0 rfl) ?_
      obtain ⟨S199, hv, hF⟩ := ob hF
      refine k_st C0 M hv dX10_drawn_199 (fun H locs M => ?_)
      refine lv_aload_n hx hb dX10_drawn_200 rfl (lv_at hl 3 rfl) ?_
      obtain ⟨v201, hv, hF⟩ := ob hF
      refine k_getP C0 M.1 hv fl_X10_68 dX10_drawn_201 ?_
      refine lv_iload_n hx hb dX10_drawn_204 rfl (lv_at hl 4 rfl) ?_
      refine lv_dup2_11 hx hb dX10_drawn_205 rfl rfl ?_
      obtain ⟨v206, hv, hF⟩ := ob hF
      refine k_ld C0 M.1 hv dX10_drawn_206 ?_
      refine lv_iconst (v := (1 : Int32)) hx hb dX10_drawn_207 (by decide) ?_
      refine lv_iadd hx hb dX10_drawn_208 ?_
      obtain ⟨S209, hv, hF⟩ := ob hF
      refine k_st C0 M hv dX10_drawn_209 (fun H locs M => ?_)
      refine lv_aload_n hx hb dX10_drawn_210 rfl (lv_at hl 3 rfl) ?_
      obtain ⟨v211, hv, hF⟩ := ob hF
      refine k_getP C0 M.1 hv fl_X10_68 dX10_drawn_211 ?_
      refine lv_iload_n hx hb dX10_drawn_214 rfl (lv_at hl 4 rfl) ?_
      obtain ⟨v215, hv, hF⟩ := ob hF
      refine k_ld C0 M.1 hv dX10_drawn_215 ?_
      refine lv_iconst (v := (1 : Int32)) hx hb dX10_drawn_216 (by decide) ?_
      refine lv_isub hx hb dX10_drawn_217 ?_
      obtain ⟨rfl, rfl⟩ := Prod.mk.inj (Kr _ (Option.some.inj hF).symm)
      exact rt_MI C0 M hr dX10_drawn_218
    · have hF := oi_t hc hF
      refine lv_bipush (v := (-3 : Int32)) hx hb dX10_drawn_163 (by decide) ?_
      obtain ⟨rfl, rfl⟩ := Prod.mk.inj (Kr _ (Option.some.inj hF).symm)
      exact rt_MI C0 M hr dX10_drawn_165
  · have hF := oi_f hc hF
    refine lv_aload_n hx hb dX10_drawn_44 rfl (lv_at hl 1 rfl) ?_
    refine lv_iload_n hx hb dX10_drawn_45 rfl (lv_at hl 4 rfl) ?_
    refine lv_iload hx hb dX10_drawn_46 (lv_at hl 5 rfl) ?_
    obtain ⟨_, hrec, hF⟩ := ob hF
    obtain ⟨S48, hcl, hF⟩ := ob hF
    refine go_MV (r_V (rest := []) (As := [.int x3, .int x4]) C0 cb_X10_323 M.1 hrec (tX10_layToCome l D cy ad A hcl) (pre_R C0 M.1) hl dX10_drawn_48 rfl (Nat.le_of_ble_eq_true rfl) ⟨rfl, rfl⟩ ⟨Nat.le_of_ble_eq_true rfl, Nat.le_of_ble_eq_true rfl⟩ ⟨Nat.le_of_ble_eq_true rfl, Nat.le_of_ble_eq_true rfl⟩ rfl) M (fun H locs M => ?_)
    refine lv_ldcw (v := (1000000 : Int32)) hx hb hown (hts _ (uw_of 1483 (by decide +kernel) rfl)) dX10_drawn_51 ?_
    refine lv_istore (lv' := [(8, .int (1000000 : Int32)), (7, .int z0), (0, .ref (ad x0)), (1, .int x1), (2, .int x2), (3, .int x3), (4, .int x4)]) hx hb dX10_drawn_54 hl (by decide) rfl (fun ls hl => ?_)
    refine lv_iconst (v := (0 : Int32)) hx hb dX10_drawn_56 (by decide) ?_
    refine lv_istore (lv' := [(9, .int (0 : Int32)), (8, .int (1000000 : Int32)), (7, .int z0), (0, .ref (ad x0)), (1, .int x1), (2, .int x2), (3, .int x3), (4, .int x4)]) hx hb dX10_drawn_57 hl (by decide) rfl (fun ls hl => ?_)
    exact Kh0 _ _ _ _ _ _ (Option.some.inj hF).symm _ _ _ M (lv_sub hl [3, 6, 7, 1, 0] rfl)
set_option maxHeartbeats 4000000 in
set_option maxRecDepth 100000 in
theorem wX10_drawn_0 {p : Program} {l : Launch} {e : Env} {s : State} {m : MethodId} {args : Array Value} {below : List Frame} {meth : Method} {c : Code} {D : va_G} {cy : Nat → ClassId} (ad : Nat → Nat) (A : Nat → Prop) {S : MS} {S' : MS} {H : Heap} {locs : List Loc} {n0 : Nat} {r : Int32} {out : ((Nat × Int32 × Int32 × Int32 × Int32 × MS) ⊕ (Int32 × MS))} {ls : Array Slot} {x0 : Nat} {x1 : Int32} {x2 : Int32} {x3 : Int32} {x4 : Int32} {x5 : Int32} {x6 : Int32} (C0 : CX p s m args meth c RX10 cX10_drawn 11 D cy) (M : ST D cy ad A s.heap (ZN n0 s.heap.size) S H locs) (hr : meth.sig.returnType = some .int) (hF : bX10_drawn_0 S x0 x1 x2 x3 x4 x5 x6 = some out) (hl : lv_has ls 11 [(0, .ref (ad x0)), (1, .int x1), (2, .int x2), (3, .int x3), (4, .int x4), (5, .int x5), (6, .int x6)]) (Kr : ∀ r9, out = .inr r9 → r9 = (r, S')) (Kh0 : ∀ (y0 : Nat) (y1 : Int32) (y2 : Int32) (y3 : Int32) (y4 : Int32) (S2 : MS), out = .inl (y0, y1, y2, y3, y4, S2) → ∀ (H1 : Heap) (locs1 : List Loc) (ls1 : Array Slot), ST D cy ad A s.heap (ZN n0 s.heap.size) S2 H1 locs1 → lv_has ls1 11 [(0, .ref (ad y0)), (3, .int y1), (4, .int y2), (8, .int y3), (9, .int y4)] → W p l e rmX10_drawn s m args below meth c H1 locs1 0 0 (MQ below (QcM D cy ad A n0 S' (some (.int r))) args s 0 0 A) (F0 m 59 ls1 [])) : W p l e rmX10_drawn s m args below meth c H locs 0 0 (MQ below (QcM D cy ad A n0 S' (some (.int r))) args s 0 0 A) (F0 m 0 ls []) := by
  unfold bX10_drawn_0 at hF
  obtain ⟨hx, hb, -, hown, -, hts, -⟩ := id C0
  refine lv_aload_n hx hb dX10_drawn_0 rfl (lv_at hl 0 rfl) ?_
  refine lv_iload hx hb dX10_drawn_1 (lv_at hl 5 rfl) ?_
  refine lv_iload hx hb dX10_drawn_3 (lv_at hl 6 rfl) ?_
  obtain ⟨_, hrec, hF⟩ := ob hF
  obtain ⟨v5, hcl, hF⟩ := ob hF
  refine go_SI (r_V (rest := []) (As := [.int x5, .int x6]) C0 cb_X10_331 M.1 hrec (tX10_areGates l D cy ad A hcl) (pre_R C0 M.1) hl dX10_drawn_5 rfl (Nat.le_of_ble_eq_true rfl) ⟨rfl, rfl⟩ ⟨Nat.le_of_ble_eq_true rfl, Nat.le_of_ble_eq_true rfl⟩ ⟨Nat.le_of_ble_eq_true rfl, Nat.le_of_ble_eq_true rfl⟩ rfl) ?_
  refine lv_if_ne (tgt := 14) hx hb dX10_drawn_8 (by decide) (fun hc => ?_) (fun hc => ?_)
  · have hF := oi_f hc hF
    refine lv_aload_n hx hb dX10_drawn_14 rfl (lv_at hl 0 rfl) ?_
    refine lv_iload hx hb dX10_drawn_15 (lv_at hl 5 rfl) ?_
    refine lv_iload hx hb dX10_drawn_17 (lv_at hl 6 rfl) ?_
    obtain ⟨_, hrec, hF⟩ := ob hF
    obtain ⟨S19, hcl, hF⟩ := ob hF
    refine go_MV (r_V (rest := []) (As := [.int x5, .int x6]) C0 cb_X10_334 M.1 hrec (tX10_layGates l D cy ad A hcl) (pre_R C0 M.1) hl dX10_drawn_19 rfl (Nat.le_of_ble_eq_true rfl) ⟨rfl, rfl⟩ ⟨Nat.le_of_ble_eq_true rfl, Nat.le_of_ble_eq_true rfl⟩ ⟨Nat.le_of_ble_eq_true rfl, Nat.le_of_ble_eq_true rfl⟩ rfl) M (fun H locs M => ?_)
    refine lv_aload_n hx hb dX10_drawn_22 rfl (lv_at hl 0 rfl) ?_
    obtain ⟨v23, hv, hF⟩ := ob hF
    refine k_getP C0 M.1 hv fl_X10_68 dX10_drawn_23 ?_
    refine lv_iload_n hx hb dX10_drawn_26 rfl (lv_at hl 1 rfl) ?_
    obtain ⟨v27, hv, hF⟩ := ob hF
    refine k_ld C0 M.1 hv dX10_drawn_27 ?_
    refine lv_iconst (v := (5 : Int32)) hx hb dX10_drawn_28 (by decide) ?_
    refine lv_icmp_ne (tgt := 36) hx hb dX10_drawn_29 (by decide) (fun hc => ?_) (fun hc => ?_)
    · have hF := oi_f hc hF
      refine lv_iconst (v := (0 : Int32)) hx hb dX10_drawn_36 (by decide) ?_
      exact wX10_drawn_37 ad A C0 M hr hF (lv_sub hl [0, 1, 2, 3, 4] rfl) Kr Kh0
    · have hF := oi_t hc hF
      refine lv_iconst (v := (1 : Int32)) hx hb dX10_drawn_32 (by decide) ?_
      refine lv_goto (tgt := 37) hx hb dX10_drawn_33 (by decide) ?_
      exact wX10_drawn_37 ad A C0 M hr hF (lv_sub hl [0, 1, 2, 3, 4] rfl) Kr Kh0
  · have hF := oi_t hc hF
    refine lv_bipush (v := (-2 : Int32)) hx hb dX10_drawn_11 (by decide) ?_
    obtain ⟨rfl, rfl⟩ := Prod.mk.inj (Kr _ (Option.some.inj hF).symm)
    exact rt_MI C0 M hr dX10_drawn_13
set_option maxHeartbeats 4000000 in
set_option maxRecDepth 100000 in
theorem wX10_drawn_108 {p : Program} {l : Launch} {e : Env} {s : State} {m : MethodId} {args : Array Value} {below : List Frame} {meth : Method} {c : Code} {D : va_G} {cy : Nat → ClassId} (ad : Nat → Nat) (A : Nat → Prop) {S : MS} {S' : MS} {H : Heap} {locs : List Loc} {n0 : Nat} {r : Int32} {out : ((Nat × Int32 × Int32 × Int32 × Int32 × MS) ⊕ (Int32 × MS))} {ls : Array Slot} {x0 : Nat} {x3 : Int32} {x4 : Int32} {x9 : Int32} {z0 : Int32} (C0 : CX p s m args meth c RX10 cX10_drawn 11 D cy) (M : ST D cy ad A s.heap (ZN n0 s.heap.size) S H locs) (hr : meth.sig.returnType = some .int) (hF : bX10_drawn_108 S x0 x3 x4 x9 z0 = some out) (hl : lv_has ls 11 [(0, .ref (ad x0)), (3, .int x3), (4, .int x4), (9, .int x9)]) (Kr : ∀ r9, out = .inr r9 → r9 = (r, S')) (Kh0 : ∀ (y0 : Nat) (y1 : Int32) (y2 : Int32) (y3 : Int32) (y4 : Int32) (S2 : MS), out = .inl (y0, y1, y2, y3, y4, S2) → ∀ (H1 : Heap) (locs1 : List Loc) (ls1 : Array Slot), ST D cy ad A s.heap (ZN n0 s.heap.size) S2 H1 locs1 → lv_has ls1 11 [(0, .ref (ad y0)), (3, .int y1), (4, .int y2), (8, .int y3), (9, .int y4)] → W p l e rmX10_drawn s m args below meth c H1 locs1 0 0 (MQ below (QcM D cy ad A n0 S' (some (.int r))) args s 0 0 A) (F0 m 59 ls1 [])) : W p l e rmX10_drawn s m args below meth c H locs 0 0 (MQ below (QcM D cy ad A n0 S' (some (.int r))) args s 0 0 A) (F0 m 108 ls [.int z0]) := by
  unfold bX10_drawn_108 at hF
  obtain ⟨hx, hb, -, hown, -, hts, -⟩ := id C0
  refine lv_istore (lv' := [(8, .int z0), (0, .ref (ad x0)), (3, .int x3), (4, .int x4), (9, .int x9)]) hx hb dX10_drawn_108 hl (by decide) rfl (fun ls hl => ?_)
  obtain ⟨v110, hv, hF⟩ := ob hF
  refine lv_iinc (v := v110) (lv' := [(9, .int v110), (8, .int z0), (0, .ref (ad x0)), (3, .int x3), (4, .int x4)]) hx hb dX10_drawn_110 hl (k := 4) rfl (by rw [← vtI hv]; rfl) (by decide) rfl (fun ls hl => ?_)
  refine lv_goto (tgt := 59) hx hb dX10_drawn_113 (by decide) ?_
  exact Kh0 _ _ _ _ _ _ (Option.some.inj hF).symm _ _ _ M (lv_sub hl [2, 3, 4, 1, 0] rfl)
set_option maxHeartbeats 4000000 in
set_option maxRecDepth 100000 in
theorem wX10_drawn_92 {p : Program} {l : Launch} {e : Env} {s : State} {m : MethodId} {args : Array Value} {below : List Frame} {meth : Method} {c : Code} {D : va_G} {cy : Nat → ClassId} (ad : Nat → Nat) (A : Nat → Prop) {S : MS} {S' : MS} {H : Heap} {locs : List Loc} {n0 : Nat} {r : Int32} {out : ((Nat × Int32 × Int32 × Int32 × Int32 × MS) ⊕ (Int32 × MS))} {ls : Array Slot} {x0 : Nat} {x3 : Int32} {x4 : Int32} {x8 : Int32} {x9 : Int32} {z0 : Int32} (C0 : CX p s m args meth c RX10 cX10_drawn 11 D cy) (M : ST D cy ad A s.heap (ZN n0 s.heap.size) S H locs) (hr : meth.sig.returnType = some .int) (hF : bX10_drawn_92 S x0 x3 x4 x8 x9 z0 = some out) (hl : lv_has ls 11 [(0, .ref (ad x0)), (3, .int x3), (4, .int x4), (8, .int x8), (9, .int x9)]) (Kr : ∀ r9, out = .inr r9 → r9 = (r, S')) (Kh0 : ∀ (y0 : Nat) (y1 : Int32) (y2 : Int32) (y3 : Int32) (y4 : Int32) (S2 : MS), out = .inl (y0, y1, y2, y3, y4, S2) → ∀ (H1 : Heap) (locs1 : List Loc) (ls1 : Array Slot), ST D cy ad A s.heap (ZN n0 s.heap.size) S2 H1 locs1 → lv_has ls1 11 [(0, .ref (ad y0)), (3, .int y1), (4, .int y2), (8, .int y3), (9, .int y4)] → W p l e rmX10_drawn s m args below meth c H1 locs1 0 0 (MQ below (QcM D cy ad A n0 S' (some (.int r))) args s 0 0 A) (F0 m 59 ls1 [])) : W p l e rmX10_drawn s m args below meth c H locs 0 0 (MQ below (QcM D cy ad A n0 S' (some (.int r))) args s 0 0 A) (F0 m 92 ls [.int z0]) := by
  unfold bX10_drawn_92 at hF
  obtain ⟨hx, hb, -, hown, -, hts, -⟩ := id C0
  refine lv_istore (lv' := [(10, .int z0), (0, .ref (ad x0)), (3, .int x3), (4, .int x4), (8, .int x8), (9, .int x9)]) hx hb dX10_drawn_92 hl (by decide) rfl (fun ls hl => ?_)
  refine lv_iload hx hb dX10_drawn_94 (lv_at hl 0 rfl) ?_
  refine lv_iload hx hb dX10_drawn_96 (lv_at hl 4 rfl) ?_
  refine lv_icmp_ge (tgt := 106) hx hb dX10_drawn_98 (by decide) (fun hc => ?_) (fun hc => ?_)
  · have hF := oi_t hc hF
    refine lv_iload hx hb dX10_drawn_106 (lv_at hl 4 rfl) ?_
    exact wX10_drawn_108 ad A C0 M hr hF (lv_sub hl [1, 2, 3, 5] rfl) Kr Kh0
  · have hF := oi_f hc hF
    refine lv_iload hx hb dX10_drawn_101 (lv_at hl 0 rfl) ?_
    refine lv_goto (tgt := 108) hx hb dX10_drawn_103 (by decide) ?_
    exact wX10_drawn_108 ad A C0 M hr hF (lv_sub hl [1, 2, 3, 5] rfl) Kr Kh0
set_option maxHeartbeats 4000000 in
set_option maxRecDepth 100000 in
theorem wX10_drawn_131 {p : Program} {l : Launch} {e : Env} {s : State} {m : MethodId} {args : Array Value} {below : List Frame} {meth : Method} {c : Code} {D : va_G} {cy : Nat → ClassId} (ad : Nat → Nat) (A : Nat → Prop) {S : MS} {S' : MS} {H : Heap} {locs : List Loc} {n0 : Nat} {r : Int32} {out : ((Nat × Int32 × Int32 × Int32 × Int32 × MS) ⊕ (Int32 × MS))} {ls : Array Slot} {z0 : Int32} (C0 : CX p s m args meth c RX10 cX10_drawn 11 D cy) (M : ST D cy ad A s.heap (ZN n0 s.heap.size) S H locs) (hr : meth.sig.returnType = some .int) (hF : bX10_drawn_131 S z0 = some out) (hl : lv_has ls 11 []) (Kr : ∀ r9, out = .inr r9 → r9 = (r, S')) (Kh0 : ∀ (y0 : Nat) (y1 : Int32) (y2 : Int32) (y3 : Int32) (y4 : Int32) (S2 : MS), out = .inl (y0, y1, y2, y3, y4, S2) → ∀ (H1 : Heap) (locs1 : List Loc) (ls1 : Array Slot), ST D cy ad A s.heap (ZN n0 s.heap.size) S2 H1 locs1 → lv_has ls1 11 [(0, .ref (ad y0)), (3, .int y1), (4, .int y2), (8, .int y3), (9, .int y4)] → W p l e rmX10_drawn s m args below meth c H1 locs1 0 0 (MQ below (QcM D cy ad A n0 S' (some (.int r))) args s 0 0 A) (F0 m 59 ls1 [])) : W p l e rmX10_drawn s m args below meth c H locs 0 0 (MQ below (QcM D cy ad A n0 S' (some (.int r))) args s 0 0 A) (F0 m 131 ls [.int z0]) := by
  unfold bX10_drawn_131 at hF
  obtain ⟨hx, hb, -, hown, -, hts, -⟩ := id C0
  obtain ⟨rfl, rfl⟩ := Prod.mk.inj (Kr _ (Option.some.inj hF).symm)
  exact rt_MI C0 M hr dX10_drawn_131
set_option maxHeartbeats 4000000 in
set_option maxRecDepth 100000 in
theorem wX10_drawn_59 {p : Program} {l : Launch} {e : Env} {s : State} {m : MethodId} {args : Array Value} {below : List Frame} {meth : Method} {c : Code} {D : va_G} {cy : Nat → ClassId} (ad : Nat → Nat) (A : Nat → Prop) {S : MS} {S' : MS} {H : Heap} {locs : List Loc} {n0 : Nat} {r : Int32} {out : ((Nat × Int32 × Int32 × Int32 × Int32 × MS) ⊕ (Int32 × MS))} {ls : Array Slot} {x0 : Nat} {x3 : Int32} {x4 : Int32} {x8 : Int32} {x9 : Int32} (C0 : CX p s m args meth c RX10 cX10_drawn 11 D cy) (M : ST D cy ad A s.heap (ZN n0 s.heap.size) S H locs) (hr : meth.sig.returnType = some .int) (hF : bX10_drawn_59 S x0 x3 x4 x8 x9 = some out) (hl : lv_has ls 11 [(0, .ref (ad x0)), (3, .int x3), (4, .int x4), (8, .int x8), (9, .int x9)]) (Kr : ∀ r9, out = .inr r9 → r9 = (r, S')) (Kh0 : ∀ (y0 : Nat) (y1 : Int32) (y2 : Int32) (y3 : Int32) (y4 : Int32) (S2 : MS), out = .inl (y0, y1, y2, y3, y4, S2) → ∀ (H1 : Heap) (locs1 : List Loc) (ls1 : Array Slot), ST D cy ad A s.heap (ZN n0 s.heap.size) S2 H1 locs1 → lv_has ls1 11 [(0, .ref (ad y0)), (3, .int y1), (4, .int y2), (8, .int y3), (9, .int y4)] → W p l e rmX10_drawn s m args below meth c H1 locs1 0 0 (MQ below (QcM D cy ad A n0 S' (some (.int r))) args s 0 0 A) (F0 m 59 ls1 [])) : W p l e rmX10_drawn s m args below meth c H locs 0 0 (MQ below (QcM D cy ad A n0 S' (some (.int r))) args s 0 0 A) (F0 m 59 ls []) := by
  unfold bX10_drawn_59 at hF
  obtain ⟨hx, hb, -, hown, -, hts, -⟩ := id C0
  refine lv_iload hx hb dX10_drawn_59 (lv_at hl 4 rfl) ?_
  refine lv_bipush (v := (12 : Int32)) hx hb dX10_drawn_61 (by decide) ?_
  refine lv_icmp_ge (tgt := 116) hx hb dX10_drawn_63 (by decide) (fun hc => ?_) (fun hc => ?_)
  · have hF := oi_t hc hF
    refine lv_iload hx hb dX10_drawn_116 (lv_at hl 3 rfl) ?_
    refine lv_ldcw (v := (1000000 : Int32)) hx hb hown (hts _ (uw_of 1483 (by decide +kernel) rfl)) dX10_drawn_118 ?_
    refine lv_icmp_ne (tgt := 129) hx hb dX10_drawn_121 (by decide) (fun hc => ?_) (fun hc => ?_)
    · have hF := oi_f hc hF
      refine lv_bipush (v := (-4 : Int32)) hx hb dX10_drawn_129 (by decide) ?_
      exact wX10_drawn_131 ad A C0 M hr hF (lv_sub hl [] rfl) Kr Kh0
    · have hF := oi_t hc hF
      refine lv_bipush (v := (-3 : Int32)) hx hb dX10_drawn_124 (by decide) ?_
      refine lv_goto (tgt := 131) hx hb dX10_drawn_126 (by decide) ?_
      exact wX10_drawn_131 ad A C0 M hr hF (lv_sub hl [] rfl) Kr Kh0
  · have hF := oi_f hc hF
    refine lv_aload_n hx hb dX10_drawn_66 rfl (lv_at hl 0 rfl) ?_
    refine lv_iload_n hx hb dX10_drawn_67 rfl (lv_at hl 1 rfl) ?_
    refine lv_iload hx hb dX10_drawn_68 (lv_at hl 4 rfl) ?_
    obtain ⟨_, hrec, hF⟩ := ob hF
    obtain ⟨v70, hcl, hF⟩ := ob hF
    refine go_SI (r_V (rest := []) (As := [.int x3, .int x9]) C0 cb_X10_316 M.1 hrec (tX10_isLet l D cy ad A hcl) (pre_R C0 M.1) hl dX10_drawn_70 rfl (Nat.le_of_ble_eq_true rfl) ⟨rfl, rfl⟩ ⟨Nat.le_of_ble_eq_true rfl, Nat.le_of_ble_eq_true rfl⟩ ⟨Nat.le_of_ble_eq_true rfl, Nat.le_of_ble_eq_true rfl⟩ rfl) ?_
    refine lv_if_eq (tgt := 89) hx hb dX10_drawn_73 (by decide) (fun hc => ?_) (fun hc => ?_)
    · have hF := oi_t hc hF
      refine lv_ldcw (v := (1000000 : Int32)) hx hb hown (hts _ (uw_of 1483 (by decide +kernel) rfl)) dX10_drawn_89 ?_
      exact wX10_drawn_92 ad A C0 M hr hF (lv_sub hl [0, 1, 2, 3, 4] rfl) Kr Kh0
    · have hF := oi_f hc hF
      refine lv_aload_n hx hb dX10_drawn_76 rfl (lv_at hl 0 rfl) ?_
      refine lv_iload_n hx hb dX10_drawn_77 rfl (lv_at hl 1 rfl) ?_
      refine lv_iload hx hb dX10_drawn_78 (lv_at hl 4 rfl) ?_
      refine lv_iconst (v := (5 : Int32)) hx hb dX10_drawn_80 (by decide) ?_
      refine lv_iload hx hb dX10_drawn_81 (lv_at hl 2 rfl) ?_
      obtain ⟨_, hrec, hF⟩ := ob hF
      obtain ⟨v83, hcl, hF⟩ := ob hF
      refine go_SI (r_V (rest := []) (As := [.int x3, .int x9, .int (5 : Int32), .int x4]) C0 cb_X10_319 M.1 hrec (tX10_bendsAt l D cy ad A hcl) (pre_R C0 M.1) hl dX10_drawn_83 rfl (Nat.le_of_ble_eq_true rfl) ⟨rfl, rfl⟩ ⟨Nat.le_of_ble_eq_true rfl, Nat.le_of_ble_eq_true rfl⟩ ⟨Nat.le_of_ble_eq_true rfl, Nat.le_of_ble_eq_true rfl⟩ rfl) ?_
      refine lv_goto (tgt := 92) hx hb dX10_drawn_86 (by decide) ?_
      exact wX10_drawn_92 ad A C0 M hr hF (lv_sub hl [0, 1, 2, 3, 4] rfl) Kr Kh0
set_option maxHeartbeats 4000000 in
set_option maxRecDepth 100000 in
theorem tX10_drawn (l : Launch) (D : va_G) (cy : Nat → ClassId) (ad : Nat → Nat) (A : Nat → Prop) {S S' : MS} {a0 : Nat} {a1 : Int32} {a2 : Int32} {a3 : Int32} {a4 : Int32} {a5 : Int32} {a6 : Int32} {r : Int32} (h : fX10_drawn S a0 a1 a2 a3 a4 a5 a6 = some (r, S')) : Met l yX10_drawn [Cond.code yX10_drawn cX10_drawn 11 (some .int)] rmX10_drawn (PcR D cy ad A S [.ref (ad a0), .int a1, .int a2, .int a3, .int a4, .int a5, .int a6]) (QcM D cy ad A (m_n S) S' (some (.int r))) 0 0 A := by
  refine met_M (by decide +kernel) cw_X10_drawn (Nat.le_of_ble_eq_true rfl) ?_
  intro p e s m args below meth c ls C0 M hr hin hl
  have hl : lv_has ls 11 [(0, .ref (ad a0)), (1, .int a1), (2, .int a2), (3, .int a3), (4, .int a4), (5, .int a5), (6, .int a6)] := hl
  have key := lim_walk (step := sX10_drawn) (fun (q : (Nat × Int32 × Int32 × Int32 × Int32 × MS)) (r9 : (Int32 × MS)) => ∀ (r : Int32) (S' : MS), r9 = (r, S') → ((∀ (y0 : Nat) (y1 : Int32) (y2 : Int32) (y3 : Int32) (y4 : Int32) (S2 : MS), q = (y0, y1, y2, y3, y4, S2) → ∀ (H1 : Heap) (locs1 : List Loc) (ls1 : Array Slot), ST D cy ad A s.heap (ZN (m_n S) s.heap.size) S2 H1 locs1 → lv_has ls1 11 [(0, .ref (ad y0)), (3, .int y1), (4, .int y2), (8, .int y3), (9, .int y4)] → W p l e rmX10_drawn s m args below meth c H1 locs1 0 0 (MQ below (QcM D cy ad A (m_n S) S' (some (.int r))) args s 0 0 A) (F0 m 59 ls1 [])))) ?_
  · unfold fX10_drawn at h
    cases hs0 : bX10_drawn_0 S a0 a1 a2 a3 a4 a5 a6 with
    | none => rw [hs0] at h; cases h
    | some out =>
      rw [hs0] at h
      refine wX10_drawn_0 ad A C0 M hr hs0 hl (fun r9 hr9 => ?_) ?_
      · subst hr9; exact Option.some.inj h
      · intro y0 y1 y2 y3 y4 y5 hq; subst hq; exact (key _ _ h _ _ rfl) _ _ _ _ _ _ rfl
  · intro q r9 out hst hre hin9
    intro r S' er; subst er
    refine ?_
    · intro y0 y1 y2 y3 y4 y5 hq H1 locs1 ls1 M hl
      subst hq
      exact wX10_drawn_59 ad A C0 M hr hst hl hre (fun k0 k1 k2 k3 k4 k5 hk => (hin9 _ hk _ _ rfl) _ _ _ _ _ _ rfl)
set_option maxHeartbeats 4000000 in
set_option maxRecDepth 100000 in
theorem wX10_draw_77 {p : Program} {l : Launch} {e : Env} {s : State} {m : MethodId} {args : Array Value} {below : List Frame} {meth : Method} {c : Code} {D : va_G} {cy : Nat → ClassId} (ad : Nat → Nat) (A : Nat → Prop) {S : MS} {S' : MS} {H : Heap} {locs : List Loc} {n0 : Nat} {r : Int32} {ls : Array Slot} {x0 : Nat} (C0 : CX p s m args meth c RX10 cX10_draw 9 D cy) (M : ST D cy ad A s.heap (ZN n0 s.heap.size) S H locs) (hr : meth.sig.returnType = some .int) (hF : bX10_draw_77 S x0 = some (r, S')) (hl : lv_has ls 9 [(0, .ref (ad x0))]) : W p l e rmX10_draw s m args below meth c H locs 0 0 (MQ below (QcM D cy ad A n0 S' (some (.int r))) args s 0 0 A) (F0 m 77 ls []) := by
  unfold bX10_draw_77 at hF
  obtain ⟨hx, hb, -, hown, -, hts, -⟩ := id C0
  refine lv_aload_n hx hb dX10_draw_77 rfl (lv_at hl 0 rfl) ?_
  refine lv_bipush (v := (-2 : Int32)) hx hb dX10_draw_78 (by decide) ?_
  obtain ⟨_, hrec, hF⟩ := ob hF
  obtain ⟨v80, S80, hcl, hF⟩ := ob2 hF
  refine go_MI (r_V (rest := []) (As := [.int (-2 : Int32)]) C0 cb_X10_215 M.1 hrec (tX10_refused l D cy ad A hcl) (pre_R C0 M.1) hl dX10_draw_80 rfl (Nat.le_of_ble_eq_true rfl) ⟨rfl, rfl⟩ ⟨Nat.le_of_ble_eq_true rfl, Nat.le_of_ble_eq_true rfl⟩ ⟨Nat.le_of_ble_eq_true rfl, Nat.le_of_ble_eq_true rfl⟩ rfl) M (fun H locs M => ?_)
  obtain ⟨rfl, rfl⟩ := Prod.mk.inj (Option.some.inj hF)
  exact rt_MI C0 M hr dX10_draw_83
set_option maxHeartbeats 4000000 in
set_option maxRecDepth 100000 in
theorem wX10_draw_112 {p : Program} {l : Launch} {e : Env} {s : State} {m : MethodId} {args : Array Value} {below : List Frame} {meth : Method} {c : Code} {D : va_G} {cy : Nat → ClassId} (ad : Nat → Nat) (A : Nat → Prop) {S : MS} {S' : MS} {H : Heap} {locs : List Loc} {n0 : Nat} {r : Int32} {ls : Array Slot} {x0 : Nat} {x1 : Int32} {x2 : Int32} {x3 : Int32} {x4 : Int32} {x5 : Int32} {x7 : Int32} {x8 : Int32} (C0 : CX p s m args meth c RX10 cX10_draw 9 D cy) (M : ST D cy ad A s.heap (ZN n0 s.heap.size) S H locs) (hr : meth.sig.returnType = some .int) (hF : bX10_draw_112 S x0 x1 x2 x3 x4 x5 x7 x8 = some (r, S')) (hl : lv_has ls 9 [(0, .ref (ad x0)), (1, .int x1), (2, .int x2), (3, .int x3), (4, .int x4), (5, .int x5), (7, .int x7), (8, .int x8)]) : W p l e rmX10_draw s m args below meth c H locs 0 0 (MQ below (QcM D cy ad A n0 S' (some (.int r))) args s 0 0 A) (F0 m 112 ls []) := by
  unfold bX10_draw_112 at hF
  obtain ⟨hx, hb, -, hown, -, hts, -⟩ := id C0
  refine lv_aload_n hx hb dX10_draw_112 rfl (lv_at hl 0 rfl) ?_
  obtain ⟨v113, hv, hF⟩ := ob hF
  refine k_getP C0 M.1 hv fl_X10_125 dX10_draw_113 ?_
  refine lv_iload hx hb dX10_draw_116 (lv_at hl 5 rfl) ?_
  obtain ⟨v118, hv, hF⟩ := ob hF
  refine k_ld C0 M.1 hv dX10_draw_118 ?_
  refine lv_if_ge (tgt := 128) hx hb dX10_draw_119 (by decide) (fun hc => ?_) (fun hc => ?_)
  · have hF := oi_t hc hF
    refine lv_iload hx hb dX10_draw_128 (lv_at hl 7 rfl) ?_
    refine lv_if_ge (tgt := 139) hx hb dX10_draw_130 (by decide) (fun hc => ?_) (fun hc => ?_)
    · have hF := oi_t hc hF
      refine lv_iload hx hb dX10_draw_139 (lv_at hl 6 rfl) ?_
      refine lv_ldc2 (v := (3 : Int64)) hx hb hown (hts _ (uw_of 1287 (by decide +kernel) rfl)) dX10_draw_141 ?_
      refine lv_iload hx hb dX10_draw_144 (lv_at hl 7 rfl) ?_
      refine lv_i2l (v := (x8.toInt64)) hx hb dX10_draw_146 rfl ?_
      refine lv_lmul hx hb dX10_draw_147 ?_
      refine lv_aload_n hx hb dX10_draw_148 rfl (lv_at hl 0 rfl) ?_
      obtain ⟨v149, hv, hF⟩ := ob hF
      refine k_getP C0 M.1 hv fl_X10_125 dX10_draw_149 ?_
      refine lv_iload hx hb dX10_draw_152 (lv_at hl 5 rfl) ?_
      obtain ⟨v154, hv, hF⟩ := ob hF
      refine k_ld C0 M.1 hv dX10_draw_154 ?_
      obtain ⟨v155, hcl, hF⟩ := ob hF
      refine go_SI (r_S (rest := []) (As := [.int x7, .long ((3 : Int64) * (x8.toInt64)), .int v154]) C0 cb_X10_223 (tX10_isBeyond l D cy ad hcl) (pre_S C0) hl dX10_draw_155 rfl (Nat.le_of_ble_eq_true rfl) ⟨rfl, rfl⟩ ⟨Nat.le_of_ble_eq_true rfl, Nat.le_of_ble_eq_true rfl⟩ ⟨Nat.le_of_ble_eq_true rfl, Nat.le_of_ble_eq_true rfl⟩ rfl) ?_
      refine lv_if_eq (tgt := 167) hx hb dX10_draw_158 (by decide) (fun hc => ?_) (fun hc => ?_)
      · have hF := oi_t hc hF
        refine lv_aload_n hx hb dX10_draw_167 rfl (lv_at hl 0 rfl) ?_
        refine lv_aload_n hx hb dX10_draw_168 rfl (lv_at hl 0 rfl) ?_
        refine lv_iload_n hx hb dX10_draw_169 rfl (lv_at hl 1 rfl) ?_
        refine lv_iload_n hx hb dX10_draw_170 rfl (lv_at hl 2 rfl) ?_
        refine lv_iload_n hx hb dX10_draw_171 rfl (lv_at hl 3 rfl) ?_
        refine lv_iload hx hb dX10_draw_172 (lv_at hl 4 rfl) ?_
        refine lv_bipush (v := (60 : Int32)) hx hb dX10_draw_174 (by decide) ?_
        refine lv_iload hx hb dX10_draw_176 (lv_at hl 5 rfl) ?_
        refine lv_imul hx hb dX10_draw_178 ?_
        refine lv_iload hx hb dX10_draw_179 (lv_at hl 6 rfl) ?_
        refine lv_iadd hx hb dX10_draw_181 ?_
        refine lv_iload hx hb dX10_draw_182 (lv_at hl 7 rfl) ?_
        obtain ⟨_, hrec, hF⟩ := ob hF
        obtain ⟨v184, S184, hcl, hF⟩ := ob2 hF
        refine go_MI (r_V (rest := [.ref (ad x0)]) (As := [.int x1, .int x2, .int x3, .int x4, .int (((60 : Int32) * x5) + x7), .int x8]) C0 cb_X10_342 M.1 hrec (tX10_drawn l D cy ad A hcl) (pre_R C0 M.1) hl dX10_draw_184 rfl (Nat.le_of_ble_eq_true rfl) ⟨rfl, rfl⟩ ⟨Nat.le_of_ble_eq_true rfl, Nat.le_of_ble_eq_true rfl⟩ ⟨Nat.le_of_ble_eq_true rfl, Nat.le_of_ble_eq_true rfl⟩ rfl) M (fun H locs M => ?_)
        obtain ⟨_, hrec, hF⟩ := ob hF
        obtain ⟨v187, S187, hcl, hF⟩ := ob2 hF
        refine go_MI (r_V (rest := []) (As := [.int v184]) C0 cb_X10_215 M.1 hrec (tX10_refused l D cy ad A hcl) (pre_R C0 M.1) hl dX10_draw_187 rfl (Nat.le_of_ble_eq_true rfl) ⟨rfl, rfl⟩ ⟨Nat.le_of_ble_eq_true rfl, Nat.le_of_ble_eq_true rfl⟩ ⟨Nat.le_of_ble_eq_true rfl, Nat.le_of_ble_eq_true rfl⟩ rfl) M (fun H locs M => ?_)
        obtain ⟨rfl, rfl⟩ := Prod.mk.inj (Option.some.inj hF)
        exact rt_MI C0 M hr dX10_draw_190
      · have hF := oi_f hc hF
        refine lv_aload_n hx hb dX10_draw_161 rfl (lv_at hl 0 rfl) ?_
        refine lv_iconst (v := (3 : Int32)) hx hb dX10_draw_162 (by decide) ?_
        obtain ⟨_, hrec, hF⟩ := ob hF
        obtain ⟨v163, S163, hcl, hF⟩ := ob2 hF
        refine go_MI (r_V (rest := []) (As := [.int (3 : Int32)]) C0 cb_X10_218 M.1 hrec (tX10_failed l D cy ad A hcl) (pre_R C0 M.1) hl dX10_draw_163 rfl (Nat.le_of_ble_eq_true rfl) ⟨rfl, rfl⟩ ⟨Nat.le_of_ble_eq_true rfl, Nat.le_of_ble_eq_true rfl⟩ ⟨Nat.le_of_ble_eq_true rfl, Nat.le_of_ble_eq_true rfl⟩ rfl) M (fun H locs M => ?_)
        obtain ⟨rfl, rfl⟩ := Prod.mk.inj (Option.some.inj hF)
        exact rt_MI C0 M hr dX10_draw_166
    · have hF := oi_f hc hF
      refine lv_aload_n hx hb dX10_draw_133 rfl (lv_at hl 0 rfl) ?_
      refine lv_iconst (v := (4 : Int32)) hx hb dX10_draw_134 (by decide) ?_
      obtain ⟨_, hrec, hF⟩ := ob hF
      obtain ⟨v135, S135, hcl, hF⟩ := ob2 hF
      refine go_MI (r_V (rest := []) (As := [.int (4 : Int32)]) C0 cb_X10_218 M.1 hrec (tX10_failed l D cy ad A hcl) (pre_R C0 M.1) hl dX10_draw_135 rfl (Nat.le_of_ble_eq_true rfl) ⟨rfl, rfl⟩ ⟨Nat.le_of_ble_eq_true rfl, Nat.le_of_ble_eq_true rfl⟩ ⟨Nat.le_of_ble_eq_true rfl, Nat.le_of_ble_eq_true rfl⟩ rfl) M (fun H locs M => ?_)
      obtain ⟨rfl, rfl⟩ := Prod.mk.inj (Option.some.inj hF)
      exact rt_MI C0 M hr dX10_draw_138
  · have hF := oi_f hc hF
    refine lv_aload_n hx hb dX10_draw_122 rfl (lv_at hl 0 rfl) ?_
    refine lv_iconst (v := (1 : Int32)) hx hb dX10_draw_123 (by decide) ?_
    obtain ⟨_, hrec, hF⟩ := ob hF
    obtain ⟨v124, S124, hcl, hF⟩ := ob2 hF
    refine go_MI (r_V (rest := []) (As := [.int (1 : Int32)]) C0 cb_X10_218 M.1 hrec (tX10_failed l D cy ad A hcl) (pre_R C0 M.1) hl dX10_draw_124 rfl (Nat.le_of_ble_eq_true rfl) ⟨rfl, rfl⟩ ⟨Nat.le_of_ble_eq_true rfl, Nat.le_of_ble_eq_true rfl⟩ ⟨Nat.le_of_ble_eq_true rfl, Nat.le_of_ble_eq_true rfl⟩ rfl) M (fun H locs M => ?_)
    obtain ⟨rfl, rfl⟩ := Prod.mk.inj (Option.some.inj hF)
    exact rt_MI C0 M hr dX10_draw_127
set_option maxHeartbeats 4000000 in
set_option maxRecDepth 100000 in
theorem wX10_draw_0 {p : Program} {l : Launch} {e : Env} {s : State} {m : MethodId} {args : Array Value} {below : List Frame} {meth : Method} {c : Code} {D : va_G} {cy : Nat → ClassId} (ad : Nat → Nat) (A : Nat → Prop) {S : MS} {S' : MS} {H : Heap} {locs : List Loc} {n0 : Nat} {r : Int32} {ls : Array Slot} {x0 : Nat} {x1 : Int32} {x2 : Int32} {x3 : Int32} {x4 : Int32} {x5 : Int32} {x6 : Int32} {x7 : Int32} {x8 : Int32} (C0 : CX p s m args meth c RX10 cX10_draw 9 D cy) (M : ST D cy ad A s.heap (ZN n0 s.heap.size) S H locs) (hr : meth.sig.returnType = some .int) (hF : bX10_draw_0 S x0 x1 x2 x3 x4 x5 x6 x7 x8 = some (r, S')) (hl : lv_has ls 9 [(0, .ref (ad x0)), (1, .int x1), (2, .int x2), (3, .int x3), (4, .int x4), (5, .int x5), (6, .int x6), (7, .int x7), (8, .int x8)]) : W p l e rmX10_draw s m args below meth c H locs 0 0 (MQ below (QcM D cy ad A n0 S' (some (.int r))) args s 0 0 A) (F0 m 0 ls []) := by
  unfold bX10_draw_0 at hF
  obtain ⟨hx, hb, -, hown, -, hts, -⟩ := id C0
  refine lv_iload hx hb dX10_draw_0 (lv_at hl 5 rfl) ?_
  obtain ⟨v2, hcl, hF⟩ := ob hF
  refine go_SI (r_S (rest := []) (As := [.int x5]) C0 cb_X10_212 (tX10_noSheet l D cy ad hcl) (pre_S C0) hl dX10_draw_2 rfl (Nat.le_of_ble_eq_true rfl) ⟨rfl, rfl⟩ ⟨Nat.le_of_ble_eq_true rfl, Nat.le_of_ble_eq_true rfl⟩ ⟨Nat.le_of_ble_eq_true rfl, Nat.le_of_ble_eq_true rfl⟩ rfl) ?_
  refine lv_if_eq (tgt := 14) hx hb dX10_draw_5 (by decide) (fun hc => ?_) (fun hc => ?_)
  · have hF := oi_t hc hF
    refine lv_iload hx hb dX10_draw_14 (lv_at hl 6 rfl) ?_
    refine lv_i2l (v := (x6.toInt64)) hx hb dX10_draw_16 rfl ?_
    refine lv_lconst (v := (0 : Int64)) hx hb dX10_draw_17 (by decide) ?_
    refine lv_ldc2 (v := (2 : Int64)) hx hb hown (hts _ (uw_of 1250 (by decide +kernel) rfl)) dX10_draw_18 ?_
    obtain ⟨v21, hcl, hF⟩ := ob hF
    refine go_SI (r_S (rest := []) (As := [.long (x6.toInt64), .long (0 : Int64), .long (2 : Int64)]) C0 cb_X10_156 (tX10_in l D cy ad hcl) (pre_S C0) hl dX10_draw_21 rfl (Nat.le_of_ble_eq_true rfl) ⟨rfl, rfl⟩ ⟨Nat.le_of_ble_eq_true rfl, Nat.le_of_ble_eq_true rfl⟩ ⟨Nat.le_of_ble_eq_true rfl, Nat.le_of_ble_eq_true rfl⟩ rfl) ?_
    refine lv_if_eq (tgt := 77) hx hb dX10_draw_24 (by decide) (fun hc => ?_) (fun hc => ?_)
    · have hF := oi_t hc hF
      exact wX10_draw_77 ad A C0 M hr hF (lv_sub hl [0] rfl)
    · have hF := oi_f hc hF
      refine lv_iload_n hx hb dX10_draw_27 rfl (lv_at hl 1 rfl) ?_
      refine lv_i2l (v := (x1.toInt64)) hx hb dX10_draw_28 rfl ?_
      refine lv_lconst (v := (0 : Int64)) hx hb dX10_draw_29 (by decide) ?_
      refine lv_lconst (v := (1 : Int64)) hx hb dX10_draw_30 (by decide) ?_
      obtain ⟨v31, hcl, hF⟩ := ob hF
      refine go_SI (r_S (rest := []) (As := [.long (x1.toInt64), .long (0 : Int64), .long (1 : Int64)]) C0 cb_X10_156 (tX10_in l D cy ad hcl) (pre_S C0) hl dX10_draw_31 rfl (Nat.le_of_ble_eq_true rfl) ⟨rfl, rfl⟩ ⟨Nat.le_of_ble_eq_true rfl, Nat.le_of_ble_eq_true rfl⟩ ⟨Nat.le_of_ble_eq_true rfl, Nat.le_of_ble_eq_true rfl⟩ rfl) ?_
      refine lv_if_eq (tgt := 77) hx hb dX10_draw_34 (by decide) (fun hc => ?_) (fun hc => ?_)
      · have hF := oi_t hc hF
        exact wX10_draw_77 ad A C0 M hr hF (lv_sub hl [0] rfl)
      · have hF := oi_f hc hF
        refine lv_iload_n hx hb dX10_draw_37 rfl (lv_at hl 2 rfl) ?_
        refine lv_i2l (v := (x2.toInt64)) hx hb dX10_draw_38 rfl ?_
        refine lv_lconst (v := (0 : Int64)) hx hb dX10_draw_39 (by decide) ?_
        refine lv_ldc2 (v := (2 : Int64)) hx hb hown (hts _ (uw_of 1250 (by decide +kernel) rfl)) dX10_draw_40 ?_
        obtain ⟨v43, hcl, hF⟩ := ob hF
        refine go_SI (r_S (rest := []) (As := [.long (x2.toInt64), .long (0 : Int64), .long (2 : Int64)]) C0 cb_X10_156 (tX10_in l D cy ad hcl) (pre_S C0) hl dX10_draw_43 rfl (Nat.le_of_ble_eq_true rfl) ⟨rfl, rfl⟩ ⟨Nat.le_of_ble_eq_true rfl, Nat.le_of_ble_eq_true rfl⟩ ⟨Nat.le_of_ble_eq_true rfl, Nat.le_of_ble_eq_true rfl⟩ rfl) ?_
        refine lv_if_eq (tgt := 77) hx hb dX10_draw_46 (by decide) (fun hc => ?_) (fun hc => ?_)
        · have hF := oi_t hc hF
          exact wX10_draw_77 ad A C0 M hr hF (lv_sub hl [0] rfl)
        · have hF := oi_f hc hF
          refine lv_iload_n hx hb dX10_draw_49 rfl (lv_at hl 3 rfl) ?_
          refine lv_i2l (v := (x3.toInt64)) hx hb dX10_draw_50 rfl ?_
          refine lv_lconst (v := (0 : Int64)) hx hb dX10_draw_51 (by decide) ?_
          refine lv_ldc2 (v := (11 : Int64)) hx hb hown (hts _ (uw_of 1257 (by decide +kernel) rfl)) dX10_draw_52 ?_
          obtain ⟨v55, hcl, hF⟩ := ob hF
          refine go_SI (r_S (rest := []) (As := [.long (x3.toInt64), .long (0 : Int64), .long (11 : Int64)]) C0 cb_X10_156 (tX10_in l D cy ad hcl) (pre_S C0) hl dX10_draw_55 rfl (Nat.le_of_ble_eq_true rfl) ⟨rfl, rfl⟩ ⟨Nat.le_of_ble_eq_true rfl, Nat.le_of_ble_eq_true rfl⟩ ⟨Nat.le_of_ble_eq_true rfl, Nat.le_of_ble_eq_true rfl⟩ rfl) ?_
          refine lv_if_eq (tgt := 77) hx hb dX10_draw_58 (by decide) (fun hc => ?_) (fun hc => ?_)
          · have hF := oi_t hc hF
            exact wX10_draw_77 ad A C0 M hr hF (lv_sub hl [0] rfl)
          · have hF := oi_f hc hF
            refine lv_iload hx hb dX10_draw_61 (lv_at hl 4 rfl) ?_
            refine lv_i2l (v := (x4.toInt64)) hx hb dX10_draw_63 rfl ?_
            refine lv_iload_n hx hb dX10_draw_64 rfl (lv_at hl 3 rfl) ?_
            refine lv_i2l (v := (x3.toInt64)) hx hb dX10_draw_65 rfl ?_
            refine lv_lconst (v := (1 : Int64)) hx hb dX10_draw_66 (by decide) ?_
            refine lv_ladd hx hb dX10_draw_67 ?_
            refine lv_ldc2 (v := (11 : Int64)) hx hb hown (hts _ (uw_of 1257 (by decide +kernel) rfl)) dX10_draw_68 ?_
            obtain ⟨v71, hcl, hF⟩ := ob hF
            refine go_SI (r_S (rest := []) (As := [.long (x4.toInt64), .long ((x3.toInt64) + (1 : Int64)), .long (11 : Int64)]) C0 cb_X10_156 (tX10_in l D cy ad hcl) (pre_S C0) hl dX10_draw_71 rfl (Nat.le_of_ble_eq_true rfl) ⟨rfl, rfl⟩ ⟨Nat.le_of_ble_eq_true rfl, Nat.le_of_ble_eq_true rfl⟩ ⟨Nat.le_of_ble_eq_true rfl, Nat.le_of_ble_eq_true rfl⟩ rfl) ?_
            refine lv_if_ne (tgt := 84) hx hb dX10_draw_74 (by decide) (fun hc => ?_) (fun hc => ?_)
            · have hF := oi_f hc hF
              refine lv_aload_n hx hb dX10_draw_84 rfl (lv_at hl 0 rfl) ?_
              obtain ⟨v85, hv, hF⟩ := ob hF
              refine k_getP C0 M.1 hv fl_X10_125 dX10_draw_85 ?_
              refine lv_iload hx hb dX10_draw_88 (lv_at hl 5 rfl) ?_
              obtain ⟨v90, hv, hF⟩ := ob hF
              refine k_ld C0 M.1 hv dX10_draw_90 ?_
              refine lv_if_lt (tgt := 112) hx hb dX10_draw_91 (by decide) (fun hc => ?_) (fun hc => ?_)
              · have hF := oi_t hc hF
                exact wX10_draw_112 ad A C0 M hr hF (lv_sub hl [0, 1, 2, 3, 4, 5, 7, 8] rfl)
              · have hF := oi_f hc hF
                refine lv_aload_n hx hb dX10_draw_94 rfl (lv_at hl 0 rfl) ?_
                obtain ⟨v95, hv, hF⟩ := ob hF
                refine k_getP C0 M.1 hv fl_X10_128 dX10_draw_95 ?_
                refine lv_iload hx hb dX10_draw_98 (lv_at hl 5 rfl) ?_
                obtain ⟨v100, hv, hF⟩ := ob hF
                refine k_ld C0 M.1 hv dX10_draw_100 ?_
                refine lv_iload hx hb dX10_draw_101 (lv_at hl 6 rfl) ?_
                refine lv_icmp_eq (tgt := 112) hx hb dX10_draw_103 (by decide) (fun hc => ?_) (fun hc => ?_)
                · have hF := oi_t hc hF
                  exact wX10_draw_112 ad A C0 M hr hF (lv_sub hl [0, 1, 2, 3, 4, 5, 7, 8] rfl)
                · have hF := oi_f hc hF
                  refine lv_aload_n hx hb dX10_draw_106 rfl (lv_at hl 0 rfl) ?_
                  refine lv_iconst (v := (2 : Int32)) hx hb dX10_draw_107 (by decide) ?_
                  obtain ⟨_, hrec, hF⟩ := ob hF
                  obtain ⟨v108, S108, hcl, hF⟩ := ob2 hF
                  refine go_MI (r_V (rest := []) (As := [.int (2 : Int32)]) C0 cb_X10_218 M.1 hrec (tX10_failed l D cy ad A hcl) (pre_R C0 M.1) hl dX10_draw_108 rfl (Nat.le_of_ble_eq_true rfl) ⟨rfl, rfl⟩ ⟨Nat.le_of_ble_eq_true rfl, Nat.le_of_ble_eq_true rfl⟩ ⟨Nat.le_of_ble_eq_true rfl, Nat.le_of_ble_eq_true rfl⟩ rfl) M (fun H locs M => ?_)
                  obtain ⟨rfl, rfl⟩ := Prod.mk.inj (Option.some.inj hF)
                  exact rt_MI C0 M hr dX10_draw_111
            · have hF := oi_t hc hF
              exact wX10_draw_77 ad A C0 M hr hF (lv_sub hl [0] rfl)
  · have hF := oi_f hc hF
    refine lv_aload_n hx hb dX10_draw_8 rfl (lv_at hl 0 rfl) ?_
    refine lv_iconst (v := (-1 : Int32)) hx hb dX10_draw_9 (by decide) ?_
    obtain ⟨_, hrec, hF⟩ := ob hF
    obtain ⟨v10, S10, hcl, hF⟩ := ob2 hF
    refine go_MI (r_V (rest := []) (As := [.int (-1 : Int32)]) C0 cb_X10_215 M.1 hrec (tX10_refused l D cy ad A hcl) (pre_R C0 M.1) hl dX10_draw_10 rfl (Nat.le_of_ble_eq_true rfl) ⟨rfl, rfl⟩ ⟨Nat.le_of_ble_eq_true rfl, Nat.le_of_ble_eq_true rfl⟩ ⟨Nat.le_of_ble_eq_true rfl, Nat.le_of_ble_eq_true rfl⟩ rfl) M (fun H locs M => ?_)
    obtain ⟨rfl, rfl⟩ := Prod.mk.inj (Option.some.inj hF)
    exact rt_MI C0 M hr dX10_draw_13
set_option maxHeartbeats 4000000 in
set_option maxRecDepth 100000 in
theorem tX10_draw (l : Launch) (D : va_G) (cy : Nat → ClassId) (ad : Nat → Nat) (A : Nat → Prop) {S S' : MS} {a0 : Nat} {a1 : Int32} {a2 : Int32} {a3 : Int32} {a4 : Int32} {a5 : Int32} {a6 : Int32} {a7 : Int32} {a8 : Int32} {r : Int32} (h : fX10_draw S a0 a1 a2 a3 a4 a5 a6 a7 a8 = some (r, S')) : Met l yX10_draw [Cond.code yX10_draw cX10_draw 9 (some .int)] rmX10_draw (PcR D cy ad A S [.ref (ad a0), .int a1, .int a2, .int a3, .int a4, .int a5, .int a6, .int a7, .int a8]) (QcM D cy ad A (m_n S) S' (some (.int r))) 0 0 A := by
  refine met_M (by decide +kernel) cw_X10_draw (Nat.le_of_ble_eq_true rfl) ?_
  intro p e s m args below meth c ls C0 M hr hin hl
  have hl : lv_has ls 9 [(0, .ref (ad a0)), (1, .int a1), (2, .int a2), (3, .int a3), (4, .int a4), (5, .int a5), (6, .int a6), (7, .int a7), (8, .int a8)] := hl
  exact wX10_draw_0 ad A C0 M hr h hl
