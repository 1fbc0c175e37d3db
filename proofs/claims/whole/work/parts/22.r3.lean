theorem cw_X10_drift : Cond.code yX10_drift cX10_drift 10 (some .int) ∈ UW := (uw_of 1563 (by decide +kernel) rfl)
theorem cw_X10_fault : Cond.code yX10_fault cX10_fault 1 (some .int) ∈ UW := (uw_of 1640 (by decide +kernel) rfl)
theorem cw_X10_isBelow : Cond.code yX10_isBelow cX10_isBelow 3 (some .boolean) ∈ UW := (uw_of 1442 (by decide +kernel) rfl)
theorem cb_X10_293 : CBV RX10 293 yX10_isBelow cX10_isBelow 3 (some .boolean) 2 11 := ⟨⟨cw_X10_isBelow, ini_ChartRoomModel, by decide, (uw_of 1439 (by decide +kernel) rfl)⟩, (uw_of 1441 (by decide +kernel) rfl), (uw_of 58 (by decide +kernel) rfl), by decide, TX10, 58, rfl⟩
theorem cw_X10_mayGo : Cond.code yX10_mayGo cX10_mayGo 4 (some .boolean) ∈ UW := (uw_of 1450 (by decide +kernel) rfl)
theorem cb_X10_296 : CBV RX10 296 yX10_mayGo cX10_mayGo 4 (some .boolean) 3 11 := ⟨⟨cw_X10_mayGo, ini_ChartRoomModel, by decide, (uw_of 1447 (by decide +kernel) rfl)⟩, (uw_of 1449 (by decide +kernel) rfl), (uw_of 60 (by decide +kernel) rfl), by decide, TX10, 58, rfl⟩
theorem cw_X10_fill : Cond.code yX10_fill cX10_fill 9 (none) ∈ UW := (uw_of 1454 (by decide +kernel) rfl)
theorem cw_X10_keepRow : Cond.code yX10_keepRow cX10_keepRow 6 (none) ∈ UW := (uw_of 1519 (by decide +kernel) rfl)
theorem fl_X10_346 : FL RX10 346 11 38 0 .int 0 := ⟨RX10, "ChartRoomModel", TX10, 58, tyX10, rfl, iu_11, tyX10_ok, nmX10, by decide, rfl, by decide, (uw_of 1109 (by decide +kernel) rfl), Or.inl rfl, tyX10_ok 38 (by decide), (fun _ => rfl), (fun h => by cases h), rfl⟩
theorem cb_X10_352 : CBV RX10 352 yX10_keepRow cX10_keepRow 6 (none) 2 11 := ⟨⟨cw_X10_keepRow, ini_ChartRoomModel, by decide, (uw_of 1516 (by decide +kernel) rfl)⟩, (uw_of 1518 (by decide +kernel) rfl), (uw_of 75 (by decide +kernel) rfl), by decide, TX10, 58, rfl⟩
theorem cb_X10_349 : CBV RX10 349 yX10_costOf cX10_costOf 6 (some .int) 2 11 := ⟨⟨cw_X10_costOf, ini_ChartRoomModel, by decide, (uw_of 1512 (by decide +kernel) rfl)⟩, (uw_of 1514 (by decide +kernel) rfl), (uw_of 74 (by decide +kernel) rfl), by decide, TX10, 58, rfl⟩
theorem cw_X10_findJoining : Cond.code yX10_findJoining cX10_findJoining 9 (none) ∈ UW := (uw_of 1511 (by decide +kernel) rfl)
theorem cw_X10_regionOf : Cond.code yX10_regionOf cX10_regionOf 1 (some .int) ∈ UW := (uw_of 1576 (by decide +kernel) rfl)
theorem fl_X10_386 : FL RX10 386 11 49 0 .int 0 := ⟨RX10, "ChartRoomModel", TX10, 58, tyX10, rfl, iu_11, tyX10_ok, nmX10, by decide, rfl, by decide, (uw_of 1120 (by decide +kernel) rfl), Or.inl rfl, tyX10_ok 49 (by decide), (fun _ => rfl), (fun h => by cases h), rfl⟩
theorem cb_X10_393 : CBS RX10 393 yX10_regionOf cX10_regionOf 1 (some .int) 1 := ⟨⟨cw_X10_regionOf, ini_ChartRoomModel, by decide, (uw_of 1574 (by decide +kernel) rfl)⟩, (uw_of 1575 (by decide +kernel) rfl)⟩
theorem cw_X10_read : Cond.code yX10_read cX10_read 7 (some .int) ∈ UW := (uw_of 1571 (by decide +kernel) rfl)
theorem cb_X10_396 : CBV RX10 396 yX10_read cX10_read 7 (some .int) 2 11 := ⟨⟨cw_X10_read, ini_ChartRoomModel, by decide, (uw_of 1568 (by decide +kernel) rfl)⟩, (uw_of 1570 (by decide +kernel) rfl), (uw_of 78 (by decide +kernel) rfl), by decide, TX10, 58, rfl⟩
theorem fl_X10_399 : FL RX10 399 11 44 0 .int 0 := ⟨RX10, "ChartRoomModel", TX10, 58, tyX10, rfl, iu_11, tyX10_ok, nmX10, by decide, rfl, by decide, (uw_of 1115 (by decide +kernel) rfl), Or.inl rfl, tyX10_ok 44 (by decide), (fun _ => rfl), (fun h => by cases h), rfl⟩
theorem cw_X10_forecast : Cond.code yX10_forecast cX10_forecast 7 (some .int) ∈ UW := (uw_of 1567 (by decide +kernel) rfl)
theorem cw_X10_noFront : Cond.code yX10_noFront cX10_noFront 3 (some .boolean) ∈ UW := (uw_of 1503 (by decide +kernel) rfl)
theorem cb_X10_355 : CBV RX10 355 yX10_findJoining cX10_findJoining 9 (none) 0 11 := ⟨⟨cw_X10_findJoining, ini_ChartRoomModel, by decide, (uw_of 1508 (by decide +kernel) rfl)⟩, (uw_of 1510 (by decide +kernel) rfl), (uw_of 73 (by decide +kernel) rfl), by decide, TX10, 58, rfl⟩
theorem cw_X10_partnerOf : Cond.code yX10_partnerOf cX10_partnerOf 4 (some .int) ∈ UW := (uw_of 1507 (by decide +kernel) rfl)
theorem cb_X10_358 : CBV RX10 358 yX10_noFront cX10_noFront 3 (some .boolean) 2 11 := ⟨⟨cw_X10_noFront, ini_ChartRoomModel, by decide, (uw_of 1500 (by decide +kernel) rfl)⟩, (uw_of 1502 (by decide +kernel) rfl), (uw_of 71 (by decide +kernel) rfl), by decide, TX10, 58, rfl⟩
theorem cb_X10_361 : CBV RX10 361 yX10_partnerOf cX10_partnerOf 4 (some .int) 2 11 := ⟨⟨cw_X10_partnerOf, ini_ChartRoomModel, by decide, (uw_of 1504 (by decide +kernel) rfl)⟩, (uw_of 1506 (by decide +kernel) rfl), (uw_of 72 (by decide +kernel) rfl), by decide, TX10, 58, rfl⟩
theorem cw_X10_front : Cond.code yX10_front cX10_front 5 (some .int) ∈ UW := (uw_of 1499 (by decide +kernel) rfl)
theorem cw_X10_noAsking : Cond.code yX10_noAsking cX10_noAsking 3 (some .int) ∈ UW := (uw_of 1404 (by decide +kernel) rfl)
theorem cb_X10_287 : CBV RX10 287 yX10_noAsking cX10_noAsking 3 (some .int) 2 11 := ⟨⟨cw_X10_noAsking, ini_ChartRoomModel, by decide, (uw_of 1401 (by decide +kernel) rfl)⟩, (uw_of 1403 (by decide +kernel) rfl), (uw_of 56 (by decide +kernel) rfl), by decide, TX10, 58, rfl⟩
theorem cw_X10_guess : Cond.code yX10_guess cX10_guess 3 (some .int) ∈ UW := (uw_of 1400 (by decide +kernel) rfl)
theorem fl_X10_418 : FL RX10 418 11 57 0 .int 0 := ⟨RX10, "ChartRoomModel", TX10, 58, tyX10, rfl, iu_11, tyX10_ok, nmX10, by decide, rfl, by decide, (uw_of 1128 (by decide +kernel) rfl), Or.inl rfl, tyX10_ok 57 (by decide), (fun _ => rfl), (fun h => by cases h), rfl⟩
theorem cw_X10_traced : Cond.code yX10_traced cX10_traced 2 (none) ∈ UW := (uw_of 1624 (by decide +kernel) rfl)
theorem cb_X10_421 : CBV RX10 421 yX10_traced cX10_traced 2 (none) 1 11 := ⟨⟨cw_X10_traced, ini_ChartRoomModel, by decide, (uw_of 1621 (by decide +kernel) rfl)⟩, (uw_of 1623 (by decide +kernel) rfl), (uw_of 82 (by decide +kernel) rfl), by decide, TX10, 58, rfl⟩
theorem cw_X10_hail : Cond.code yX10_hail cX10_hail 2 (some .int) ∈ UW := (uw_of 1628 (by decide +kernel) rfl)
theorem cw_X10_isOf : Cond.code yX10_isOf cX10_isOf 3 (some .boolean) ∈ UW := (uw_of 1587 (by decide +kernel) rfl)
theorem cb_X10_404 : CBS RX10 404 yX10_isOf cX10_isOf 3 (some .boolean) 3 := ⟨⟨cw_X10_isOf, ini_ChartRoomModel, by decide, (uw_of 1585 (by decide +kernel) rfl)⟩, (uw_of 1586 (by decide +kernel) rfl)⟩
theorem cw_X10_isTrue : Cond.code yX10_isTrue cX10_isTrue 6 (some .boolean) ∈ UW := (uw_of 1584 (by decide +kernel) rfl)
theorem cw_X10_joining : Cond.code yX10_joining cX10_joining 1 (some .int) ∈ UW := (uw_of 1527 (by decide +kernel) rfl)
theorem cw_X10_keep : Cond.code yX10_keep cX10_keep 4 (some .int) ∈ UW := (uw_of 1547 (by decide +kernel) rfl)
theorem cw_X10_lengthOf : Cond.code yX10_lengthOf cX10_lengthOf 4 (some .int) ∈ UW := (uw_of 1438 (by decide +kernel) rfl)
theorem cw_X10_level : Cond.code yX10_level cX10_level 3 (some .int) ∈ UW := (uw_of 1412 (by decide +kernel) rfl)
theorem cb_X10_300 : CBV RX10 300 yX10_fill cX10_fill 9 (none) 3 11 := ⟨⟨cw_X10_fill, ini_ChartRoomModel, by decide, (uw_of 1451 (by decide +kernel) rfl)⟩, (uw_of 1453 (by decide +kernel) rfl), (uw_of 61 (by decide +kernel) rfl), by decide, TX10, 58, rfl⟩
theorem cw_X10_piecesOf : Cond.code yX10_piecesOf cX10_piecesOf 5 (some .int) ∈ UW := (uw_of 1446 (by decide +kernel) rfl)
theorem cw_X10_wrongOf : Cond.code yX10_wrongOf cX10_wrongOf 4 (some .int) ∈ UW := (uw_of 1458 (by decide +kernel) rfl)
abbrev rmX10_drift : Room := { frames := 5, cells := 0, slots := 0, locals := 121 }
abbrev rmX10_fault : Room := { frames := 0, cells := 0, slots := 0, locals := 0 }
abbrev rmX10_isBelow : Room := { frames := 0, cells := 0, slots := 0, locals := 0 }
abbrev rmX10_mayGo : Room := { frames := 1, cells := 0, slots := 0, locals := 22 }
abbrev rmX10_fill : Room := { frames := 2, cells := 0, slots := 0, locals := 45 }
abbrev rmX10_keepRow : Room := { frames := 0, cells := 0, slots := 0, locals := 0 }
abbrev rmX10_findJoining : Room := { frames := 2, cells := 0, slots := 0, locals := 50 }
abbrev rmX10_regionOf : Room := { frames := 0, cells := 0, slots := 0, locals := 0 }
abbrev rmX10_read : Room := { frames := 1, cells := 0, slots := 0, locals := 25 }
abbrev rmX10_forecast : Room := { frames := 2, cells := 0, slots := 0, locals := 51 }
abbrev rmX10_noFront : Room := { frames := 1, cells := 0, slots := 0, locals := 25 }
abbrev rmX10_partnerOf : Room := { frames := 3, cells := 0, slots := 0, locals := 78 }
abbrev rmX10_front : Room := { frames := 4, cells := 0, slots := 0, locals := 101 }
abbrev rmX10_noAsking : Room := { frames := 5, cells := 0, slots := 0, locals := 121 }
abbrev rmX10_guess : Room := { frames := 6, cells := 0, slots := 0, locals := 143 }
abbrev rmX10_traced : Room := { frames := 0, cells := 0, slots := 0, locals := 0 }
abbrev rmX10_hail : Room := { frames := 2, cells := 0, slots := 0, locals := 46 }
abbrev rmX10_isOf : Room := { frames := 1, cells := 0, slots := 0, locals := 25 }
abbrev rmX10_isTrue : Room := { frames := 2, cells := 0, slots := 0, locals := 47 }
abbrev rmX10_joining : Room := { frames := 3, cells := 0, slots := 0, locals := 78 }
abbrev rmX10_keep : Room := { frames := 5, cells := 0, slots := 0, locals := 121 }
abbrev rmX10_lengthOf : Room := { frames := 1, cells := 0, slots := 0, locals := 22 }
abbrev rmX10_level : Room := { frames := 6, cells := 0, slots := 0, locals := 143 }
abbrev rmX10_piecesOf : Room := { frames := 3, cells := 0, slots := 0, locals := 73 }
abbrev rmX10_wrongOf : Room := { frames := 1, cells := 0, slots := 0, locals := 22 }
noncomputable def bX10_drift_0 (S : MS) (x0 : Nat) (x1 : Int32) (x2 : Int32) : Option (((Nat × Int32 × Int32 × Int32 × Int64 × Int64 × Int32 × MS) ⊕ (Nat × Int32 × Int32 × Int32 × Int64 × Int64 × Int32 × Int32 × MS)) ⊕ (Int32 × MS)) :=
  (fX10_in (x1.toInt64) (0 : Int64) (3 : Int64)).bind fun v6 =>
  if v6 = 0 then
    some (.inr ((-1 : Int32), S))
  else
    (fX10_in (x2.toInt64) (0 : Int64) (4 : Int64)).bind fun v20 =>
    if v20 = 0 then
      some (.inr ((-2 : Int32), S))
    else
      (o_gP S x0 11 39).bind fun v30 =>
      (o_ld S v30 13 x1).bind fun v34 =>
      if v34 = 0 then
        some (.inr ((-3 : Int32), S))
      else
        (o_is S x0 11).bind fun _ =>
        (fX10_layChart S x0).bind fun S42 =>
        (some ((-x2))).bind fun v56 =>
        some (.inl (.inl (x0, x1, x2, (-3 : Int32), (0 : Int64), (1 : Int64), v56, S42)))
noncomputable def bX10_drift_58 (S : MS) (x0 : Nat) (x1 : Int32) (x2 : Int32) (x3 : Int32) (x4 : Int64) (x6 : Int64) (x8 : Int32) : Option (((Nat × Int32 × Int32 × Int32 × Int64 × Int64 × Int32 × MS) ⊕ (Nat × Int32 × Int32 × Int32 × Int64 × Int64 × Int32 × Int32 × MS)) ⊕ (Int32 × MS)) :=
  if x2 < x8 then
    some (.inr (x3, S))
  else
    (some ((-x2))).bind fun v66 =>
    some (.inl (.inr (x0, x1, x2, x3, x4, x6, x8, v66, S)))
noncomputable def bX10_drift_141 (S : MS) (x0 : Nat) (x1 : Int32) (x2 : Int32) (x3 : Int32) (x4 : Int64) (x6 : Int64) (x8 : Int32) (x9 : Int32) : Option (((Nat × Int32 × Int32 × Int32 × Int64 × Int64 × Int32 × MS) ⊕ (Nat × Int32 × Int32 × Int32 × Int64 × Int64 × Int32 × Int32 × MS)) ⊕ (Int32 × MS)) :=
  (some (x9 + 1)).bind fun v141 =>
  some (.inl (.inr (x0, x1, x2, x3, x4, x6, x8, v141, S)))
noncomputable def bX10_drift_113 (S : MS) (x0 : Nat) (x1 : Int32) (x2 : Int32) (x8 : Int32) (x9 : Int32) : Option (((Nat × Int32 × Int32 × Int32 × Int64 × Int64 × Int32 × MS) ⊕ (Nat × Int32 × Int32 × Int32 × Int64 × Int64 × Int32 × Int32 × MS)) ⊕ (Int32 × MS)) :=
  (some (((((100 : Int32) * (x8 + (11 : Int32))) + x9) + (11 : Int32)))).bind fun v127 =>
  (o_gJ S x0 11 42).bind fun v129 =>
  (o_gI S x0 11 41).bind fun v135 =>
  (some ((v135.toInt64))).bind fun v139 =>
  bX10_drift_141 S x0 x1 x2 v127 v129 v139 x8 x9
noncomputable def bX10_drift_68 (S : MS) (x0 : Nat) (x1 : Int32) (x2 : Int32) (x3 : Int32) (x4 : Int64) (x6 : Int64) (x8 : Int32) (x9 : Int32) : Option (((Nat × Int32 × Int32 × Int32 × Int64 × Int64 × Int32 × MS) ⊕ (Nat × Int32 × Int32 × Int32 × Int64 × Int64 × Int32 × Int32 × MS)) ⊕ (Int32 × MS)) :=
  if x2 < x9 then
    (some (x8 + 1)).bind fun v147 =>
    some (.inl (.inl (x0, x1, x2, x3, x4, x6, v147, S)))
  else
    (o_is S x0 11).bind fun _ =>
    (fX10_layBeside S x0 x8 x9 x1).bind fun S80 =>
    (o_gI S80 x0 11 41).bind fun v84 =>
    if v84 ≤ 0 then
      bX10_drift_141 S80 x0 x1 x2 x3 x4 x6 x8 x9
    else
      if x3 < 0 then
        bX10_drift_113 S80 x0 x1 x2 x8 x9
      else
        (o_gJ S80 x0 11 42).bind fun v95 =>
        (o_gI S80 x0 11 41).bind fun v104 =>
        if 0 ≤ (lg_cmp (v95 * x6) (x4 * (v104.toInt64))) then
          bX10_drift_141 S80 x0 x1 x2 x3 x4 x6 x8 x9
        else
          bX10_drift_113 S80 x0 x1 x2 x8 x9
noncomputable def sX10_drift : ((Nat × Int32 × Int32 × Int32 × Int64 × Int64 × Int32 × MS) ⊕ (Nat × Int32 × Int32 × Int32 × Int64 × Int64 × Int32 × Int32 × MS)) → Option (((Nat × Int32 × Int32 × Int32 × Int64 × Int64 × Int32 × MS) ⊕ (Nat × Int32 × Int32 × Int32 × Int64 × Int64 × Int32 × Int32 × MS)) ⊕ (Int32 × MS)) := (Sum.elim (fun t => bX10_drift_58 t.2.2.2.2.2.2.2 t.1 t.2.1 t.2.2.1 t.2.2.2.1 t.2.2.2.2.1 t.2.2.2.2.2.1 t.2.2.2.2.2.2.1) (fun t => bX10_drift_68 t.2.2.2.2.2.2.2.2 t.1 t.2.1 t.2.2.1 t.2.2.2.1 t.2.2.2.2.1 t.2.2.2.2.2.1 t.2.2.2.2.2.2.1 t.2.2.2.2.2.2.2.1))
noncomputable def hX10_drift_58 (S : MS) (x0 : Nat) (x1 : Int32) (x2 : Int32) (x3 : Int32) (x4 : Int64) (x6 : Int64) (x8 : Int32) : Option (Int32 × MS) := lim (sX10_drift) (.inl (x0, x1, x2, x3, x4, x6, x8, S))
theorem qX10_drift_58 (S : MS) (x0 : Nat) (x1 : Int32) (x2 : Int32) (x3 : Int32) (x4 : Int64) (x6 : Int64) (x8 : Int32) : hX10_drift_58 S x0 x1 x2 x3 x4 x6 x8 = fin (sX10_drift) (bX10_drift_58 S x0 x1 x2 x3 x4 x6 x8) := lim_eq _ _
noncomputable def hX10_drift_68 (S : MS) (x0 : Nat) (x1 : Int32) (x2 : Int32) (x3 : Int32) (x4 : Int64) (x6 : Int64) (x8 : Int32) (x9 : Int32) : Option (Int32 × MS) := lim (sX10_drift) (.inr (x0, x1, x2, x3, x4, x6, x8, x9, S))
theorem qX10_drift_68 (S : MS) (x0 : Nat) (x1 : Int32) (x2 : Int32) (x3 : Int32) (x4 : Int64) (x6 : Int64) (x8 : Int32) (x9 : Int32) : hX10_drift_68 S x0 x1 x2 x3 x4 x6 x8 x9 = fin (sX10_drift) (bX10_drift_68 S x0 x1 x2 x3 x4 x6 x8 x9) := lim_eq _ _
noncomputable def fX10_drift (S : MS) (a0 : Nat) (a1 : Int32) (a2 : Int32) : Option (Int32 × MS) := fin (sX10_drift) (bX10_drift_0 S a0 a1 a2)
noncomputable def bX10_fault_0 (S : MS) (x0 : Nat) : Option Int32 :=
  (o_gI S x0 11 0).bind fun v1 =>
  some v1
noncomputable def fX10_fault (S : MS) (a0 : Nat) : Option Int32 := bX10_fault_0 S a0
noncomputable def bX10_isBelow_15 (S : MS) (z0 : Int32) : Option Int32 :=
  (o_zb z0).bind fun z15 =>
  some z15
noncomputable def bX10_isBelow_0 (S : MS) (x0 : Nat) (x1 : Int32) (x2 : Int32) : Option Int32 :=
  (o_gP S x0 11 24).bind fun v1 =>
  (o_ld S v1 12 x1).bind fun v5 =>
  if x2 ≤ v5 then
    bX10_isBelow_15 S (0 : Int32)
  else
    bX10_isBelow_15 S (1 : Int32)
noncomputable def fX10_isBelow (S : MS) (a0 : Nat) (a1 : Int32) (a2 : Int32) : Option Int32 := bX10_isBelow_0 S a0 a1 a2
noncomputable def bX10_mayGo_24 (S : MS) (z0 : Int32) : Option Int32 :=
  (o_zb z0).bind fun z24 =>
  some z24
noncomputable def bX10_mayGo_23 (S : MS) : Option Int32 :=
  bX10_mayGo_24 S (0 : Int32)
noncomputable def bX10_mayGo_0 (S : MS) (x0 : Nat) (x1 : Int32) (x2 : Int32) (x3 : Int32) : Option Int32 :=
  (o_gP S x0 11 27).bind fun v1 =>
  (o_ld S v1 13 x1).bind fun v5 =>
  if v5 = 0 then
    (o_is S x0 11).bind fun _ =>
    (fX10_isBelow S x0 x1 x3).bind fun v12 =>
    if v12 = x2 then
      bX10_mayGo_24 S (1 : Int32)
    else
      bX10_mayGo_23 S
  else
    bX10_mayGo_23 S
noncomputable def fX10_mayGo (S : MS) (a0 : Nat) (a1 : Int32) (a2 : Int32) (a3 : Int32) : Option Int32 := bX10_mayGo_0 S a0 a1 a2 a3
noncomputable def bX10_fill_0 (S : MS) (x0 : Nat) (x1 : Int32) (x2 : Int32) (x3 : Int32) : Option (((Nat × Int32 × Int32 × Int32 × MS) ⊕ (Nat × Int32 × Int32 × Int32 × Int32 × Int32 × MS)) ⊕ MS) :=
  (o_gP S x0 11 26).bind fun v4 =>
  (o_st S v4 12 (0 : Int32) x1).bind fun S9 =>
  (o_gP S9 x0 11 27).bind fun v11 =>
  (o_st S9 v11 13 x1 (1 : Int32)).bind fun S16 =>
  some (.inl (.inl (x0, x2, x3, (1 : Int32), S16)))
noncomputable def bX10_fill_17 (S : MS) (x0 : Nat) (x2 : Int32) (x3 : Int32) (x4 : Int32) : Option (((Nat × Int32 × Int32 × Int32 × MS) ⊕ (Nat × Int32 × Int32 × Int32 × Int32 × Int32 × MS)) ⊕ MS) :=
  if x4 ≤ 0 then
    some (.inr S)
  else
    (some (x4 + (-1))).bind fun v22 =>
    (o_gP S x0 11 26).bind fun v26 =>
    (o_ld S v26 12 v22).bind fun v31 =>
    some (.inl (.inr (x0, x2, x3, v22, v31, (0 : Int32), S)))
noncomputable def bX10_fill_197 (S : MS) (x0 : Nat) (x2 : Int32) (x3 : Int32) (x4 : Int32) (x5 : Int32) (x6 : Int32) : Option (((Nat × Int32 × Int32 × Int32 × MS) ⊕ (Nat × Int32 × Int32 × Int32 × Int32 × Int32 × MS)) ⊕ MS) :=
  (some (x6 + 1)).bind fun v197 =>
  some (.inl (.inr (x0, x2, x3, x4, x5, v197, S)))
noncomputable def bX10_fill_158 (S : MS) (x0 : Nat) (x2 : Int32) (x3 : Int32) (x4 : Int32) (x5 : Int32) (x6 : Int32) (x7 : Int32) (z0 : Int32) (z1 : Int32) : Option (((Nat × Int32 × Int32 × Int32 × MS) ⊕ (Nat × Int32 × Int32 × Int32 × Int32 × Int32 × MS)) ⊕ MS) :=
  (some ((z0 + z1))).bind fun v159 =>
  if x7 = 0 then
    bX10_fill_197 S x0 x2 x3 x4 x5 x6
  else
    (o_is S x0 11).bind fun _ =>
    (fX10_mayGo S x0 v159 x2 x3).bind fun v171 =>
    if v171 = 0 then
      bX10_fill_197 S x0 x2 x3 x4 x5 x6
    else
      (o_gP S x0 11 27).bind fun v178 =>
      (o_st S v178 13 v159 (1 : Int32)).bind fun S184 =>
      (o_gP S184 x0 11 26).bind fun v186 =>
      (o_st S184 v186 12 x4 v159).bind fun S193 =>
      (some (x4 + 1)).bind fun v194 =>
      bX10_fill_197 S193 x0 x2 x3 v194 x5 x6
noncomputable def bX10_fill_122 (S : MS) (x0 : Nat) (x2 : Int32) (x3 : Int32) (x4 : Int32) (x5 : Int32) (x6 : Int32) (z0 : Int32) : Option (((Nat × Int32 × Int32 × Int32 × MS) ⊕ (Nat × Int32 × Int32 × Int32 × Int32 × Int32 × MS)) ⊕ MS) :=
  if x6 = 0 then
    bX10_fill_158 S x0 x2 x3 x4 x5 x6 z0 x5 (1 : Int32)
  else
    if x6 = (1 : Int32) then
      bX10_fill_158 S x0 x2 x3 x4 x5 x6 z0 x5 (-1 : Int32)
    else
      if x6 = (2 : Int32) then
        bX10_fill_158 S x0 x2 x3 x4 x5 x6 z0 x5 (12 : Int32)
      else
        bX10_fill_158 S x0 x2 x3 x4 x5 x6 z0 x5 (-12 : Int32)
noncomputable def bX10_fill_37 (S : MS) (x0 : Nat) (x2 : Int32) (x3 : Int32) (x4 : Int32) (x5 : Int32) (x6 : Int32) : Option (((Nat × Int32 × Int32 × Int32 × MS) ⊕ (Nat × Int32 × Int32 × Int32 × Int32 × Int32 × MS)) ⊕ MS) :=
  if (4 : Int32) ≤ x6 then
    some (.inl (.inl (x0, x2, x3, x4, S)))
  else
    if x6 = 0 then
      if (11 : Int32) ≤ (x5 - x5 / (12 : Int32) * (12 : Int32)) then
        bX10_fill_122 S x0 x2 x3 x4 x5 x6 (0 : Int32)
      else
        bX10_fill_122 S x0 x2 x3 x4 x5 x6 (1 : Int32)
    else
      if x6 = (1 : Int32) then
        if (x5 - x5 / (12 : Int32) * (12 : Int32)) ≤ 0 then
          bX10_fill_122 S x0 x2 x3 x4 x5 x6 (0 : Int32)
        else
          bX10_fill_122 S x0 x2 x3 x4 x5 x6 (1 : Int32)
      else
        if x6 = (2 : Int32) then
          if (132 : Int32) ≤ x5 then
            bX10_fill_122 S x0 x2 x3 x4 x5 x6 (0 : Int32)
          else
            bX10_fill_122 S x0 x2 x3 x4 x5 x6 (1 : Int32)
        else
          if x5 ≤ (11 : Int32) then
            bX10_fill_122 S x0 x2 x3 x4 x5 x6 (0 : Int32)
          else
            bX10_fill_122 S x0 x2 x3 x4 x5 x6 (1 : Int32)
noncomputable def sX10_fill : ((Nat × Int32 × Int32 × Int32 × MS) ⊕ (Nat × Int32 × Int32 × Int32 × Int32 × Int32 × MS)) → Option (((Nat × Int32 × Int32 × Int32 × MS) ⊕ (Nat × Int32 × Int32 × Int32 × Int32 × Int32 × MS)) ⊕ MS) := (Sum.elim (fun t => bX10_fill_17 t.2.2.2.2 t.1 t.2.1 t.2.2.1 t.2.2.2.1) (fun t => bX10_fill_37 t.2.2.2.2.2.2 t.1 t.2.1 t.2.2.1 t.2.2.2.1 t.2.2.2.2.1 t.2.2.2.2.2.1))
noncomputable def hX10_fill_17 (S : MS) (x0 : Nat) (x2 : Int32) (x3 : Int32) (x4 : Int32) : Option MS := lim (sX10_fill) (.inl (x0, x2, x3, x4, S))
theorem qX10_fill_17 (S : MS) (x0 : Nat) (x2 : Int32) (x3 : Int32) (x4 : Int32) : hX10_fill_17 S x0 x2 x3 x4 = fin (sX10_fill) (bX10_fill_17 S x0 x2 x3 x4) := lim_eq _ _
noncomputable def hX10_fill_37 (S : MS) (x0 : Nat) (x2 : Int32) (x3 : Int32) (x4 : Int32) (x5 : Int32) (x6 : Int32) : Option MS := lim (sX10_fill) (.inr (x0, x2, x3, x4, x5, x6, S))
theorem qX10_fill_37 (S : MS) (x0 : Nat) (x2 : Int32) (x3 : Int32) (x4 : Int32) (x5 : Int32) (x6 : Int32) : hX10_fill_37 S x0 x2 x3 x4 x5 x6 = fin (sX10_fill) (bX10_fill_37 S x0 x2 x3 x4 x5 x6) := lim_eq _ _
noncomputable def fX10_fill (S : MS) (a0 : Nat) (a1 : Int32) (a2 : Int32) (a3 : Int32) : Option MS := fin (sX10_fill) (bX10_fill_0 S a0 a1 a2 a3)
noncomputable def bX10_keepRow_0 (S : MS) (x0 : Nat) (x1 : Int32) (x2 : Int32) : Option ((Nat × Int32 × Int32 × Int32 × MS) ⊕ MS) :=
  some (.inl (x0, x2, x1, (0 : Int32), S))
noncomputable def bX10_keepRow_58 (S : MS) (x0 : Nat) (x3 : Int32) (x4 : Int32) (x5 : Int32) (z0 : Nat) (z1 : Int32) (z2 : Int32) : Option ((Nat × Int32 × Int32 × Int32 × MS) ⊕ MS) :=
  (o_st S z0 12 z1 z2).bind fun S58 =>
  (o_nz x3).bind fun w62 =>
  (some ((x4 - x4 / x3 * x3))).bind fun v63 =>
  (some (x5 + 1)).bind fun v65 =>
  some (.inl (x0, x3, v63, v65, S58))
noncomputable def bX10_keepRow_8 (S : MS) (x0 : Nat) (x3 : Int32) (x4 : Int32) (x5 : Int32) : Option ((Nat × Int32 × Int32 × Int32 × MS) ⊕ MS) :=
  (o_gP S x0 11 28).bind fun v11 =>
  (o_ld S v11 12 (0 : Int32)).bind fun v15 =>
  if v15 ≤ x5 then
    some (.inr S)
  else
    (o_gP S x0 11 28).bind fun v21 =>
    (o_ld S v21 12 (1 : Int32)).bind fun v25 =>
    (o_nz (v25 + (1 : Int32))).bind fun w28 =>
    (some ((x3 / (v25 + (1 : Int32))))).bind fun v29 =>
    (o_gP S x0 11 37).bind fun v31 =>
    (o_nz v29).bind fun w39 =>
    (o_gP S x0 11 28).bind fun v41 =>
    (o_ld S v41 12 (1 : Int32)).bind fun v45 =>
    if v45 ≤ (x4 / v29) then
      bX10_keepRow_58 S x0 v29 x4 x5 v31 x5 (-9 : Int32)
    else
      (o_nz v29).bind fun w52 =>
      bX10_keepRow_58 S x0 v29 x4 x5 v31 x5 (x4 / v29)
noncomputable def sX10_keepRow : (Nat × Int32 × Int32 × Int32 × MS) → Option ((Nat × Int32 × Int32 × Int32 × MS) ⊕ MS) := (fun t => bX10_keepRow_8 t.2.2.2.2 t.1 t.2.1 t.2.2.1 t.2.2.2.1)
noncomputable def hX10_keepRow_8 (S : MS) (x0 : Nat) (x3 : Int32) (x4 : Int32) (x5 : Int32) : Option MS := lim (sX10_keepRow) (x0, x3, x4, x5, S)
theorem qX10_keepRow_8 (S : MS) (x0 : Nat) (x3 : Int32) (x4 : Int32) (x5 : Int32) : hX10_keepRow_8 S x0 x3 x4 x5 = fin (sX10_keepRow) (bX10_keepRow_8 S x0 x3 x4 x5) := lim_eq _ _
noncomputable def fX10_keepRow (S : MS) (a0 : Nat) (a1 : Int32) (a2 : Int32) : Option MS := fin (sX10_keepRow) (bX10_keepRow_0 S a0 a1 a2)
noncomputable def bX10_findJoining_0 (S : MS) (x0 : Nat) : Option (((Nat × Int32 × Int32 × MS) ⊕ ((Nat × Int32 × Int32 × MS) ⊕ (Nat × Int32 × Int32 × Int32 × Int32 × Int32 × Int32 × Int32 × MS))) ⊕ MS) :=
  some (.inl (.inl (x0, (1 : Int32), (0 : Int32), S)))
noncomputable def bX10_findJoining_4 (S : MS) (x0 : Nat) (x1 : Int32) (x2 : Int32) : Option (((Nat × Int32 × Int32 × MS) ⊕ ((Nat × Int32 × Int32 × MS) ⊕ (Nat × Int32 × Int32 × Int32 × Int32 × Int32 × Int32 × Int32 × MS))) ⊕ MS) :=
  (o_gP S x0 11 28).bind fun v6 =>
  (o_ld S v6 12 (0 : Int32)).bind fun v10 =>
  if v10 ≤ x2 then
    (o_sI S x0 11 38 (1000000 : Int32)).bind fun S35 =>
    some (.inl (.inr (.inl (x0, x1, (0 : Int32), S35))))
  else
    (o_gP S x0 11 28).bind fun v16 =>
    (o_ld S v16 12 (1 : Int32)).bind fun v20 =>
    (some ((x1 * (v20 + (1 : Int32))))).bind fun v24 =>
    (some (x2 + 1)).bind fun v25 =>
    some (.inl (.inl (x0, v24, v25, S)))
noncomputable def bX10_findJoining_40 (S : MS) (x0 : Nat) (x1 : Int32) (x2 : Int32) : Option (((Nat × Int32 × Int32 × MS) ⊕ ((Nat × Int32 × Int32 × MS) ⊕ (Nat × Int32 × Int32 × Int32 × Int32 × Int32 × Int32 × Int32 × MS))) ⊕ MS) :=
  if x1 ≤ x2 then
    some (.inr S)
  else
    (o_gP S x0 11 28).bind fun v56 =>
    (o_ld S v56 12 (0 : Int32)).bind fun v60 =>
    (o_gP S x0 11 28).bind fun v62 =>
    (o_ld S v62 12 (1 : Int32)).bind fun v66 =>
    (some (((15 : Int32) * (v60 + v66)))).bind fun v69 =>
    some (.inl (.inr (.inr (x0, x1, x2, x1, x2, (0 : Int32), v69, (0 : Int32), S))))
noncomputable def bX10_findJoining_160 (S : MS) (x0 : Nat) (x1 : Int32) (x2 : Int32) (x3 : Int32) (x4 : Int32) (x5 : Int32) (x6 : Int32) (x7 : Int32) : Option (((Nat × Int32 × Int32 × MS) ⊕ ((Nat × Int32 × Int32 × MS) ⊕ (Nat × Int32 × Int32 × Int32 × Int32 × Int32 × Int32 × Int32 × MS))) ⊕ MS) :=
  (some (x7 + 1)).bind fun v160 =>
  some (.inl (.inr (.inr (x0, x1, x2, x3, x4, x5, x6, v160, S))))
noncomputable def bX10_findJoining_148 (S : MS) (x0 : Nat) (x1 : Int32) (x2 : Int32) (x3 : Int32) (x4 : Int32) (x5 : Int32) (x7 : Int32) (x8 : Int32) (z0 : Int32) (z1 : Int32) : Option (((Nat × Int32 × Int32 × MS) ⊕ ((Nat × Int32 × Int32 × MS) ⊕ (Nat × Int32 × Int32 × Int32 × Int32 × Int32 × Int32 × Int32 × MS))) ⊕ MS) :=
  (some ((z0 + z1))).bind fun v149 =>
  (some ((x5 ||| ((1 : Int32) <<< (x8 &&& 31))))).bind fun v158 =>
  bX10_findJoining_160 S x0 x1 x2 x3 x4 v158 v149 x7
noncomputable def bX10_findJoining_187 (S : MS) (x0 : Nat) (x1 : Int32) (x2 : Int32) : Option (((Nat × Int32 × Int32 × MS) ⊕ ((Nat × Int32 × Int32 × MS) ⊕ (Nat × Int32 × Int32 × Int32 × Int32 × Int32 × Int32 × Int32 × MS))) ⊕ MS) :=
  (some (x2 + 1)).bind fun v187 =>
  some (.inl (.inr (.inl (x0, x1, v187, S))))
noncomputable def bX10_findJoining_74 (S : MS) (x0 : Nat) (x1 : Int32) (x2 : Int32) (x3 : Int32) (x4 : Int32) (x5 : Int32) (x6 : Int32) (x7 : Int32) : Option (((Nat × Int32 × Int32 × MS) ⊕ ((Nat × Int32 × Int32 × MS) ⊕ (Nat × Int32 × Int32 × Int32 × Int32 × Int32 × Int32 × Int32 × MS))) ⊕ MS) :=
  (o_gP S x0 11 28).bind fun v77 =>
  (o_ld S v77 12 (0 : Int32)).bind fun v81 =>
  if v81 ≤ x7 then
    (o_gI S x0 11 38).bind fun v169 =>
    if v169 ≤ x6 then
      bX10_findJoining_187 S x0 x1 x2
    else
      (o_sI S x0 11 38 x6).bind fun S178 =>
      (o_is S178 x0 11).bind fun _ =>
      (fX10_keepRow S178 x0 x2 x1).bind fun S184 =>
      bX10_findJoining_187 S184 x0 x1 x2
  else
    (o_gP S x0 11 28).bind fun v87 =>
    (o_ld S v87 12 (1 : Int32)).bind fun v91 =>
    (o_nz (v91 + (1 : Int32))).bind fun w94 =>
    (some ((x3 / (v91 + (1 : Int32))))).bind fun v95 =>
    (o_nz v95).bind fun w99 =>
    (some ((x4 / v95))).bind fun v100 =>
    (o_nz v95).bind fun w105 =>
    (some ((x4 - x4 / v95 * v95))).bind fun v106 =>
    (o_gP S x0 11 28).bind fun v111 =>
    (o_ld S v111 12 (1 : Int32)).bind fun v115 =>
    if v115 ≤ v100 then
      bX10_findJoining_160 S x0 x1 x2 v95 v106 x5 x6 x7
    else
      (fX10_hasBit x5 v100).bind fun v125 =>
      if v125 = 0 then
        (o_is S x0 11).bind fun _ =>
        (fX10_costOf S x0 x7 v100).bind fun v142 =>
        bX10_findJoining_148 S x0 x1 x2 v95 v106 x5 x7 v100 x6 (v142 - (30 : Int32))
      else
        bX10_findJoining_148 S x0 x1 x2 v95 v106 x5 x7 v100 x6 (1000000 : Int32)
noncomputable def sX10_findJoining : ((Nat × Int32 × Int32 × MS) ⊕ ((Nat × Int32 × Int32 × MS) ⊕ (Nat × Int32 × Int32 × Int32 × Int32 × Int32 × Int32 × Int32 × MS))) → Option (((Nat × Int32 × Int32 × MS) ⊕ ((Nat × Int32 × Int32 × MS) ⊕ (Nat × Int32 × Int32 × Int32 × Int32 × Int32 × Int32 × Int32 × MS))) ⊕ MS) := (Sum.elim (fun t => bX10_findJoining_4 t.2.2.2 t.1 t.2.1 t.2.2.1) (Sum.elim (fun t => bX10_findJoining_40 t.2.2.2 t.1 t.2.1 t.2.2.1) (fun t => bX10_findJoining_74 t.2.2.2.2.2.2.2.2 t.1 t.2.1 t.2.2.1 t.2.2.2.1 t.2.2.2.2.1 t.2.2.2.2.2.1 t.2.2.2.2.2.2.1 t.2.2.2.2.2.2.2.1)))
noncomputable def hX10_findJoining_4 (S : MS) (x0 : Nat) (x1 : Int32) (x2 : Int32) : Option MS := lim (sX10_findJoining) (.inl (x0, x1, x2, S))
theorem qX10_findJoining_4 (S : MS) (x0 : Nat) (x1 : Int32) (x2 : Int32) : hX10_findJoining_4 S x0 x1 x2 = fin (sX10_findJoining) (bX10_findJoining_4 S x0 x1 x2) := lim_eq _ _
noncomputable def hX10_findJoining_40 (S : MS) (x0 : Nat) (x1 : Int32) (x2 : Int32) : Option MS := lim (sX10_findJoining) (.inr (.inl (x0, x1, x2, S)))
theorem qX10_findJoining_40 (S : MS) (x0 : Nat) (x1 : Int32) (x2 : Int32) : hX10_findJoining_40 S x0 x1 x2 = fin (sX10_findJoining) (bX10_findJoining_40 S x0 x1 x2) := lim_eq _ _
noncomputable def hX10_findJoining_74 (S : MS) (x0 : Nat) (x1 : Int32) (x2 : Int32) (x3 : Int32) (x4 : Int32) (x5 : Int32) (x6 : Int32) (x7 : Int32) : Option MS := lim (sX10_findJoining) (.inr (.inr (x0, x1, x2, x3, x4, x5, x6, x7, S)))
theorem qX10_findJoining_74 (S : MS) (x0 : Nat) (x1 : Int32) (x2 : Int32) (x3 : Int32) (x4 : Int32) (x5 : Int32) (x6 : Int32) (x7 : Int32) : hX10_findJoining_74 S x0 x1 x2 x3 x4 x5 x6 x7 = fin (sX10_findJoining) (bX10_findJoining_74 S x0 x1 x2 x3 x4 x5 x6 x7) := lim_eq _ _
noncomputable def fX10_findJoining (S : MS) (a0 : Nat) : Option MS := fin (sX10_findJoining) (bX10_findJoining_0 S a0)
noncomputable def bX10_regionOf_51 (z0 : Int32) : Option Int32 :=
  some z0
noncomputable def bX10_regionOf_0 (x0 : Int32) : Option Int32 :=
  if x0 = (110 : Int32) then
    bX10_regionOf_51 (0 : Int32)
  else
    if x0 = (115 : Int32) then
      bX10_regionOf_51 (1 : Int32)
    else
      if x0 = (119 : Int32) then
        bX10_regionOf_51 (2 : Int32)
      else
        if x0 = (101 : Int32) then
          bX10_regionOf_51 (3 : Int32)
        else
          if x0 = (109 : Int32) then
            bX10_regionOf_51 (4 : Int32)
          else
            bX10_regionOf_51 (-1 : Int32)
noncomputable def fX10_regionOf (a0 : Int32) : Option Int32 := bX10_regionOf_0 a0
noncomputable def bX10_read_0 (S : MS) (x0 : Nat) (x1 : Int32) (x2 : Int32) : Option ((Nat × Int32 × Int32 × Int32 × Int32 × MS) ⊕ (Int32 × MS)) :=
  (o_sI S x0 11 49 (0 : Int32)).bind fun S2 =>
  some (.inl (x0, x1, x2, (0 : Int32), (0 : Int32), S2))
noncomputable def bX10_read_214 (S : MS) (x0 : Nat) (x1 : Int32) (x2 : Int32) (x3 : Int32) (x4 : Int32) : Option ((Nat × Int32 × Int32 × Int32 × Int32 × MS) ⊕ (Int32 × MS)) :=
  (some (x4 + 1)).bind fun v214 =>
  some (.inl (x0, x1, x2, x3, v214, S))
noncomputable def bX10_read_121 (S : MS) (x0 : Nat) (x1 : Int32) (x2 : Int32) (x4 : Int32) (z0 : Nat) (z1 : Int32) (z2 : Int32) : Option ((Nat × Int32 × Int32 × Int32 × Int32 × MS) ⊕ (Int32 × MS)) :=
  (o_zb z2).bind fun z121 =>
  (o_st S z0 13 z1 z121).bind fun S121 =>
  bX10_read_214 S121 x0 x1 x2 (2 : Int32) x4
noncomputable def bX10_read_101 (S : MS) (x0 : Nat) (x1 : Int32) (x2 : Int32) (x4 : Int32) (x5 : Int32) : Option ((Nat × Int32 × Int32 × Int32 × Int32 × MS) ⊕ (Int32 × MS)) :=
  (o_gP S x0 11 51).bind fun v102 =>
  (o_gI S x0 11 49).bind fun v106 =>
  if x5 = (62 : Int32) then
    bX10_read_121 S x0 x1 x2 x4 v102 v106 (1 : Int32)
  else
    bX10_read_121 S x0 x1 x2 x4 v102 v106 (0 : Int32)
noncomputable def bX10_read_211 (S : MS) (x4 : Int32) : Option ((Nat × Int32 × Int32 × Int32 × Int32 × MS) ⊕ (Int32 × MS)) :=
  some (.inr (x4, S))
noncomputable def bX10_read_176 (S : MS) (x0 : Nat) (x1 : Int32) (x2 : Int32) (x3 : Int32) (x4 : Int32) (x5 : Int32) : Option ((Nat × Int32 × Int32 × Int32 × Int32 × MS) ⊕ (Int32 × MS)) :=
  if x3 ≤ (2 : Int32) then
    bX10_read_211 S x4
  else
    if x5 = (44 : Int32) then
      (o_gI S x0 11 49).bind fun v189 =>
      if (4 : Int32) ≤ v189 then
        bX10_read_211 S x4
      else
        (o_gI S x0 11 49).bind fun v198 =>
        (o_sI S x0 11 49 (v198 + (1 : Int32))).bind fun S203 =>
        bX10_read_214 S203 x0 x1 x2 (0 : Int32) x4
    else
      bX10_read_211 S x4
noncomputable def bX10_read_127 (S : MS) (x0 : Nat) (x1 : Int32) (x2 : Int32) (x3 : Int32) (x4 : Int32) (x5 : Int32) (x6 : Int32) : Option ((Nat × Int32 × Int32 × Int32 × Int32 × MS) ⊕ (Int32 × MS)) :=
  if x3 < (2 : Int32) then
    bX10_read_176 S x0 x1 x2 x3 x4 x5
  else
    if (7 : Int32) ≤ x3 then
      bX10_read_176 S x0 x1 x2 x3 x4 x5
    else
      if x6 = 0 then
        bX10_read_176 S x0 x1 x2 x3 x4 x5
      else
        (o_gP S x0 11 52).bind fun v144 =>
        (o_gI S x0 11 49).bind fun v148 =>
        (o_gP S x0 11 52).bind fun v154 =>
        (o_gI S x0 11 49).bind fun v158 =>
        (o_ld S v154 12 v158).bind fun v161 =>
        (o_st S v144 12 v148 ((((10 : Int32) * v161) + x5) - (48 : Int32))).bind fun S169 =>
        (some (x3 + 1)).bind fun v170 =>
        bX10_read_214 S169 x0 x1 x2 v170 x4
noncomputable def bX10_read_82 (S : MS) (x0 : Nat) (x1 : Int32) (x2 : Int32) (x3 : Int32) (x4 : Int32) (x5 : Int32) (x6 : Int32) : Option ((Nat × Int32 × Int32 × Int32 × Int32 × MS) ⊕ (Int32 × MS)) :=
  if x3 = (1 : Int32) then
    if x5 = (60 : Int32) then
      bX10_read_101 S x0 x1 x2 x4 x5
    else
      if x5 = (62 : Int32) then
        bX10_read_101 S x0 x1 x2 x4 x5
      else
        bX10_read_127 S x0 x1 x2 x3 x4 x5 x6
  else
    bX10_read_127 S x0 x1 x2 x3 x4 x5 x6
noncomputable def bX10_read_240 (S : MS) (z0 : Int32) : Option ((Nat × Int32 × Int32 × Int32 × Int32 × MS) ⊕ (Int32 × MS)) :=
  some (.inr (z0, S))
noncomputable def bX10_read_10 (S : MS) (x0 : Nat) (x1 : Int32) (x2 : Int32) (x3 : Int32) (x4 : Int32) : Option ((Nat × Int32 × Int32 × Int32 × Int32 × MS) ⊕ (Int32 × MS)) :=
  if x2 ≤ x4 then
    (o_gI S x0 11 49).bind fun v222 =>
    (o_sI S x0 11 49 (v222 + (1 : Int32))).bind fun S227 =>
    if x3 ≤ (2 : Int32) then
      bX10_read_240 S227 x2
    else
      bX10_read_240 S227 (-1 : Int32)
  else
    (o_gP S x0 11 55).bind fun v17 =>
    (o_ld S v17 12 (x1 + x4)).bind fun v24 =>
    (fX10_in (v24.toInt64) (48 : Int64) (57 : Int64)).bind fun v36 =>
    if x3 = 0 then
      (fX10_regionOf v24).bind fun v47 =>
      if v47 < 0 then
        bX10_read_82 S x0 x1 x2 x3 x4 v24 v36
      else
        (o_gP S x0 11 50).bind fun v54 =>
        (o_gI S x0 11 49).bind fun v58 =>
        (fX10_regionOf v24).bind fun v63 =>
        (o_st S v54 12 v58 v63).bind fun S66 =>
        (o_gP S66 x0 11 52).bind fun v68 =>
        (o_gI S66 x0 11 49).bind fun v72 =>
        (o_st S66 v68 12 v72 (0 : Int32)).bind fun S76 =>
        bX10_read_214 S76 x0 x1 x2 (1 : Int32) x4
    else
      bX10_read_82 S x0 x1 x2 x3 x4 v24 v36
noncomputable def sX10_read : (Nat × Int32 × Int32 × Int32 × Int32 × MS) → Option ((Nat × Int32 × Int32 × Int32 × Int32 × MS) ⊕ (Int32 × MS)) := (fun t => bX10_read_10 t.2.2.2.2.2 t.1 t.2.1 t.2.2.1 t.2.2.2.1 t.2.2.2.2.1)
noncomputable def hX10_read_10 (S : MS) (x0 : Nat) (x1 : Int32) (x2 : Int32) (x3 : Int32) (x4 : Int32) : Option (Int32 × MS) := lim (sX10_read) (x0, x1, x2, x3, x4, S)
theorem qX10_read_10 (S : MS) (x0 : Nat) (x1 : Int32) (x2 : Int32) (x3 : Int32) (x4 : Int32) : hX10_read_10 S x0 x1 x2 x3 x4 = fin (sX10_read) (bX10_read_10 S x0 x1 x2 x3 x4) := lim_eq _ _
noncomputable def fX10_read (S : MS) (a0 : Nat) (a1 : Int32) (a2 : Int32) : Option (Int32 × MS) := fin (sX10_read) (bX10_read_0 S a0 a1 a2)
noncomputable def bX10_forecast_57 (S : MS) (x0 : Nat) (x1 : Int32) (x3 : Int32) (x4 : Int32) : Option ((Nat × Int32 × MS) ⊕ (Int32 × MS)) :=
  (o_gP S x0 11 53).bind fun v58 =>
  (o_ld S v58 12 x1).bind fun v62 =>
  if 0 ≤ v62 then
    if 0 ≤ x4 then
      (o_gP S x0 11 53).bind fun v88 =>
      (o_ld S v88 12 x1).bind fun v92 =>
      (fX10_isBeyond x3 (x4.toInt64) v92).bind fun v93 =>
      if v93 = 0 then
        (o_is S x0 11).bind fun _ =>
        b2 (fX10_read S x0 (((60 : Int32) * x1) + x3) x4) fun v114 S114 =>
        if v114 < 0 then
          (o_gI S114 x0 11 44).bind fun v135 =>
          if v135 = (8 : Int32) then
            (o_is S114 x0 11).bind fun _ =>
            b2 (fX10_refused S114 x0 (-4 : Int32)) fun v146 S146 =>
            some (.inr (v146, S146))
          else
            (o_gP S114 x0 11 45).bind fun v151 =>
            (o_gI S114 x0 11 44).bind fun v155 =>
            (o_gI S114 x0 11 49).bind fun v159 =>
            (o_st S114 v151 12 v155 v159).bind fun S162 =>
            some (.inl (x0, (0 : Int32), S162))
        else
          (o_is S114 x0 11).bind fun _ =>
          b2 (fX10_refused S114 x0 ((-100 : Int32) - v114)) fun v130 S130 =>
          some (.inr (v130, S130))
      else
        (o_is S x0 11).bind fun _ =>
        b2 (fX10_failed S x0 (3 : Int32)) fun v101 S101 =>
        some (.inr (v101, S101))
    else
      (o_is S x0 11).bind fun _ =>
      b2 (fX10_failed S x0 (4 : Int32)) fun v79 S79 =>
      some (.inr (v79, S79))
  else
    (o_is S x0 11).bind fun _ =>
    b2 (fX10_failed S x0 (1 : Int32)) fun v68 S68 =>
    some (.inr (v68, S68))
noncomputable def bX10_forecast_0 (S : MS) (x0 : Nat) (x1 : Int32) (x2 : Int32) (x3 : Int32) (x4 : Int32) : Option ((Nat × Int32 × MS) ⊕ (Int32 × MS)) :=
  (fX10_noSheet x1).bind fun v1 =>
  if v1 = 0 then
    (fX10_in (x2.toInt64) (0 : Int64) (2 : Int64)).bind fun v19 =>
    if v19 = 0 then
      (o_is S x0 11).bind fun _ =>
      b2 (fX10_refused S x0 (-2 : Int32)) fun v28 S28 =>
      some (.inr (v28, S28))
    else
      (o_gP S x0 11 53).bind fun v33 =>
      (o_ld S v33 12 x1).bind fun v37 =>
      if v37 < 0 then
        bX10_forecast_57 S x0 x1 x3 x4
      else
        (o_gP S x0 11 54).bind fun v42 =>
        (o_ld S v42 12 x1).bind fun v46 =>
        if v46 = x2 then
          bX10_forecast_57 S x0 x1 x3 x4
        else
          (o_is S x0 11).bind fun _ =>
          b2 (fX10_failed S x0 (2 : Int32)) fun v53 S53 =>
          some (.inr (v53, S53))
  else
    (o_is S x0 11).bind fun _ =>
    b2 (fX10_refused S x0 (-1 : Int32)) fun v9 S9 =>
    some (.inr (v9, S9))
noncomputable def bX10_forecast_166 (S : MS) (x0 : Nat) (x6 : Int32) : Option ((Nat × Int32 × MS) ⊕ (Int32 × MS)) :=
  (o_gI S x0 11 49).bind fun v169 =>
  if v169 ≤ x6 then
    (o_gI S x0 11 44).bind fun v246 =>
    (o_sI S x0 11 44 (v246 + (1 : Int32))).bind fun S251 =>
    (o_gI S251 x0 11 44).bind fun v256 =>
    (o_is S251 x0 11).bind fun _ =>
    b2 (fX10_refused S251 x0 (v256 - (1 : Int32))) fun v261 S261 =>
    some (.inr (v261, S261))
  else
    (o_gP S x0 11 46).bind fun v176 =>
    (o_gI S x0 11 44).bind fun v181 =>
    (o_gP S x0 11 50).bind fun v189 =>
    (o_ld S v189 12 x6).bind fun v194 =>
    (o_st S v176 12 (((5 : Int32) * v181) + x6) v194).bind fun S195 =>
    (o_gP S195 x0 11 47).bind fun v197 =>
    (o_gI S195 x0 11 44).bind fun v202 =>
    (o_gP S195 x0 11 51).bind fun v210 =>
    (o_ld S195 v210 13 x6).bind fun v215 =>
    (o_zb v215).bind fun z216 =>
    (o_st S195 v197 13 (((5 : Int32) * v202) + x6) z216).bind fun S216 =>
    (o_gP S216 x0 11 48).bind fun v218 =>
    (o_gI S216 x0 11 44).bind fun v223 =>
    (o_gP S216 x0 11 52).bind fun v231 =>
    (o_ld S216 v231 12 x6).bind fun v236 =>
    (o_st S216 v218 12 (((5 : Int32) * v223) + x6) v236).bind fun S237 =>
    (some (x6 + 1)).bind fun v238 =>
    some (.inl (x0, v238, S237))
noncomputable def sX10_forecast : (Nat × Int32 × MS) → Option ((Nat × Int32 × MS) ⊕ (Int32 × MS)) := (fun t => bX10_forecast_166 t.2.2 t.1 t.2.1)
noncomputable def hX10_forecast_166 (S : MS) (x0 : Nat) (x6 : Int32) : Option (Int32 × MS) := lim (sX10_forecast) (x0, x6, S)
theorem qX10_forecast_166 (S : MS) (x0 : Nat) (x6 : Int32) : hX10_forecast_166 S x0 x6 = fin (sX10_forecast) (bX10_forecast_166 S x0 x6) := lim_eq _ _
noncomputable def fX10_forecast (S : MS) (a0 : Nat) (a1 : Int32) (a2 : Int32) (a3 : Int32) (a4 : Int32) : Option (Int32 × MS) := fin (sX10_forecast) (bX10_forecast_0 S a0 a1 a2 a3 a4)
noncomputable def bX10_noFront_23 (S : MS) (z0 : Int32) : Option Int32 :=
  (o_zb z0).bind fun z23 =>
  some z23
noncomputable def bX10_noFront_0 (S : MS) (x0 : Nat) (x1 : Int32) (x2 : Int32) : Option Int32 :=
  (o_gP S x0 11 28).bind fun v4 =>
  (o_ld S v4 12 x1).bind fun v8 =>
  (fX10_in (x2.toInt64) (0 : Int64) ((v8.toInt64) - (1 : Int64))).bind fun v12 =>
  if v12 = 0 then
    bX10_noFront_23 S (1 : Int32)
  else
    bX10_noFront_23 S (0 : Int32)
noncomputable def fX10_noFront (S : MS) (a0 : Nat) (a1 : Int32) (a2 : Int32) : Option Int32 := bX10_noFront_0 S a0 a1 a2
noncomputable def bX10_partnerOf_0 (S : MS) (x0 : Nat) (x1 : Int32) (x2 : Int32) : Option ((Nat × Int32 × Int32 × MS) ⊕ (Int32 × MS)) :=
  (o_is S x0 11).bind fun _ =>
  (fX10_findJoining S x0).bind fun S1 =>
  if x1 = 0 then
    (o_gP S1 x0 11 37).bind fun v9 =>
    (o_ld S1 v9 12 x2).bind fun v13 =>
    some (.inr (v13, S1))
  else
    some (.inl (x0, x2, (0 : Int32), S1))
noncomputable def bX10_partnerOf_17 (S : MS) (x0 : Nat) (x2 : Int32) (x3 : Int32) : Option ((Nat × Int32 × Int32 × MS) ⊕ (Int32 × MS)) :=
  (o_gP S x0 11 28).bind fun v19 =>
  (o_ld S v19 12 (0 : Int32)).bind fun v23 =>
  if v23 ≤ x3 then
    some (.inr ((-9 : Int32), S))
  else
    (o_gP S x0 11 37).bind fun v28 =>
    (o_ld S v28 12 x3).bind fun v32 =>
    if v32 = x2 then
      some (.inr (x3, S))
    else
      (some (x3 + 1)).bind fun v39 =>
      some (.inl (x0, x2, v39, S))
noncomputable def sX10_partnerOf : (Nat × Int32 × Int32 × MS) → Option ((Nat × Int32 × Int32 × MS) ⊕ (Int32 × MS)) := (fun t => bX10_partnerOf_17 t.2.2.2 t.1 t.2.1 t.2.2.1)
noncomputable def hX10_partnerOf_17 (S : MS) (x0 : Nat) (x2 : Int32) (x3 : Int32) : Option (Int32 × MS) := lim (sX10_partnerOf) (x0, x2, x3, S)
theorem qX10_partnerOf_17 (S : MS) (x0 : Nat) (x2 : Int32) (x3 : Int32) : hX10_partnerOf_17 S x0 x2 x3 = fin (sX10_partnerOf) (bX10_partnerOf_17 S x0 x2 x3) := lim_eq _ _
noncomputable def fX10_partnerOf (S : MS) (a0 : Nat) (a1 : Int32) (a2 : Int32) : Option (Int32 × MS) := fin (sX10_partnerOf) (bX10_partnerOf_0 S a0 a1 a2)
noncomputable def bX10_front_0 (S : MS) (x0 : Nat) (x1 : Int32) (x2 : Int32) (x3 : Int32) : Option (Int32 × MS) :=
  (fX10_in (x1.toInt64) (0 : Int64) (1 : Int64)).bind fun v4 =>
  if v4 = 0 then
    some ((-2 : Int32), S)
  else
    (o_is S x0 11).bind fun _ =>
    (fX10_noFront S x0 x1 x2).bind fun v16 =>
    if v16 = 0 then
      (some ((((5 : Int32) * x1) + x2))).bind fun v29 =>
      if x3 = (0 : Int32) then
        (o_gP S x0 11 29).bind fun v69 =>
        (o_ld S v69 12 v29).bind fun v74 =>
        some (v74, S)
      else
      if x3 = (1 : Int32) then
        (o_gP S x0 11 30).bind fun v77 =>
        (o_ld S v77 12 v29).bind fun v82 =>
        some (v82, S)
      else
      if x3 = (2 : Int32) then
        (o_gP S x0 11 31).bind fun v85 =>
        (o_ld S v85 12 v29).bind fun v90 =>
        some (v90, S)
      else
      if x3 = (3 : Int32) then
        (o_gP S x0 11 32).bind fun v93 =>
        (o_ld S v93 12 v29).bind fun v98 =>
        some (v98, S)
      else
      if x3 = (4 : Int32) then
        (o_is S x0 11).bind fun _ =>
        b2 (fX10_partnerOf S x0 x1 x2) fun v103 S103 =>
        some (v103, S103)
      else
      some ((-2 : Int32), S)
    else
      some ((-1 : Int32), S)
noncomputable def fX10_front (S : MS) (a0 : Nat) (a1 : Int32) (a2 : Int32) (a3 : Int32) : Option (Int32 × MS) := bX10_front_0 S a0 a1 a2 a3
noncomputable def bX10_noAsking_47 (S : MS) (z0 : Int32) : Option (Int32 × MS) :=
  some (z0, S)
noncomputable def bX10_noAsking_41 (S : MS) : Option (Int32 × MS) :=
  bX10_noAsking_47 S (-3 : Int32)
noncomputable def bX10_noAsking_46 (S : MS) : Option (Int32 × MS) :=
  bX10_noAsking_47 S (0 : Int32)
noncomputable def bX10_noAsking_0 (S : MS) (x0 : Nat) (x1 : Int32) (x2 : Int32) : Option (Int32 × MS) :=
  (o_is S x0 11).bind fun _ =>
  (fX10_noWire S x0 x1).bind fun v2 =>
  if v2 = 0 then
    (o_is S x0 11).bind fun _ =>
    (fX10_layChart S x0).bind fun S11 =>
    (o_gP S11 x0 11 21).bind fun v15 =>
    (o_gP S11 x0 11 9).bind fun v19 =>
    (o_ld S11 v19 12 x1).bind fun v23 =>
    (o_ld S11 v15 12 v23).bind fun v24 =>
    if v24 < 0 then
      bX10_noAsking_41 S11
    else
      if x2 = 0 then
        bX10_noAsking_46 S11
      else
        (o_gP S11 x0 11 13).bind fun v33 =>
        (o_ld S11 v33 12 x1).bind fun v37 =>
        if v37 = 0 then
          bX10_noAsking_41 S11
        else
          bX10_noAsking_46 S11
  else
    some ((-1 : Int32), S)
noncomputable def fX10_noAsking (S : MS) (a0 : Nat) (a1 : Int32) (a2 : Int32) : Option (Int32 × MS) := bX10_noAsking_0 S a0 a1 a2
noncomputable def bX10_guess_20 (S : MS) (z0 : Int32) : Option (Int32 × MS) :=
  some (z0, S)
noncomputable def bX10_guess_0 (S : MS) (x0 : Nat) (x1 : Int32) : Option (Int32 × MS) :=
  (o_is S x0 11).bind fun _ =>
  b2 (fX10_noAsking S x0 x1 (0 : Int32)) fun v3 S3 =>
  if 0 ≤ v3 then
    (o_is S3 x0 11).bind fun _ =>
    (fX10_guessOf S3 x0 x1).bind fun v17 =>
    bX10_guess_20 S3 v17
  else
    bX10_guess_20 S3 v3
noncomputable def fX10_guess (S : MS) (a0 : Nat) (a1 : Int32) : Option (Int32 × MS) := bX10_guess_0 S a0 a1
noncomputable def bX10_traced_0 (S : MS) (x0 : Nat) (x1 : Int32) : Option MS :=
  (o_gI S x0 11 57).bind fun v4 =>
  (o_sI S x0 11 57 (((31 : Int32) * v4) + x1)).bind fun S10 =>
  some S10
noncomputable def fX10_traced (S : MS) (a0 : Nat) (a1 : Int32) : Option MS := bX10_traced_0 S a0 a1
noncomputable def bX10_hail_45 (S : MS) (z0 : Int32) : Option (Int32 × MS) :=
  some (z0, S)
noncomputable def bX10_hail_26 (S : MS) (x0 : Nat) (x1 : Int32) (z0 : Nat) (z1 : Int32) : Option (Int32 × MS) :=
  (o_is S z0 11).bind fun _ =>
  (fX10_traced S z0 z1).bind fun S26 =>
  (o_gP S26 x0 11 2).bind fun v30 =>
  (o_ld S26 v30 12 x1).bind fun v34 =>
  if v34 = (2 : Int32) then
    bX10_hail_45 S26 (80 : Int32)
  else
    bX10_hail_45 S26 x1
noncomputable def bX10_hail_0 (S : MS) (x0 : Nat) (x1 : Int32) : Option (Int32 × MS) :=
  (o_is S x0 11).bind fun _ =>
  (fX10_noPost S x0 x1).bind fun v2 =>
  if v2 = 0 then
    (o_gP S x0 11 2).bind fun v12 =>
    (o_ld S v12 12 x1).bind fun v16 =>
    if v16 = (2 : Int32) then
      bX10_hail_26 S x0 x1 x0 (5 : Int32)
    else
      bX10_hail_26 S x0 x1 x0 (4 : Int32)
  else
    some ((-1 : Int32), S)
noncomputable def fX10_hail (S : MS) (a0 : Nat) (a1 : Int32) : Option (Int32 × MS) := bX10_hail_0 S a0 a1
noncomputable def bX10_isOf_42 (z0 : Int32) : Option Int32 :=
  (o_zb z0).bind fun z42 =>
  some z42
noncomputable def bX10_isOf_54 (z0 : Int32) : Option Int32 :=
  (o_zb z0).bind fun z54 =>
  some z54
noncomputable def bX10_isOf_65 (z0 : Int32) : Option Int32 :=
  (o_zb z0).bind fun z65 =>
  some z65
noncomputable def bX10_isOf_77 (z0 : Int32) : Option Int32 :=
  (o_zb z0).bind fun z77 =>
  some z77
noncomputable def bX10_isOf_111 (z0 : Int32) : Option Int32 :=
  (o_zb z0).bind fun z111 =>
  some z111
noncomputable def bX10_isOf_110 : Option Int32 :=
  bX10_isOf_111 (0 : Int32)
noncomputable def bX10_isOf_0 (x0 : Int32) (x1 : Int32) (x2 : Int32) : Option Int32 :=
  if x0 = (0 : Int32) then
    if (4 : Int32) ≤ x2 then
      bX10_isOf_42 (0 : Int32)
    else
      bX10_isOf_42 (1 : Int32)
  else
  if x0 = (1 : Int32) then
    if x2 ≤ (7 : Int32) then
      bX10_isOf_54 (0 : Int32)
    else
      bX10_isOf_54 (1 : Int32)
  else
  if x0 = (2 : Int32) then
    if (4 : Int32) ≤ x1 then
      bX10_isOf_65 (0 : Int32)
    else
      bX10_isOf_65 (1 : Int32)
  else
  if x0 = (3 : Int32) then
    if x1 ≤ (7 : Int32) then
      bX10_isOf_77 (0 : Int32)
    else
      bX10_isOf_77 (1 : Int32)
  else
  (fX10_in (x1.toInt64) (4 : Int64) (7 : Int64)).bind fun v86 =>
  if v86 = 0 then
    bX10_isOf_110
  else
    (fX10_in (x2.toInt64) (4 : Int64) (7 : Int64)).bind fun v100 =>
    if v100 = 0 then
      bX10_isOf_110
    else
      bX10_isOf_111 (1 : Int32)
noncomputable def fX10_isOf (a0 : Int32) (a1 : Int32) (a2 : Int32) : Option Int32 := bX10_isOf_0 a0 a1 a2
noncomputable def bX10_isTrue_0 (S : MS) (x0 : Nat) (x1 : Int32) : Option ((Nat × Int32 × Int32 × Int32 × Int32) ⊕ Int32) :=
  some (.inl (x0, x1, (0 : Int32), (1 : Int32), (0 : Int32)))
noncomputable def bX10_isTrue_99 (S : MS) (x0 : Nat) (x1 : Int32) (x2 : Int32) (x3 : Int32) (x4 : Int32) : Option ((Nat × Int32 × Int32 × Int32 × Int32) ⊕ Int32) :=
  (some (x4 + 1)).bind fun v99 =>
  some (.inl (x0, x1, x2, x3, v99))
noncomputable def bX10_isTrue_98 (S : MS) (x0 : Nat) (x1 : Int32) (x2 : Int32) (x4 : Int32) (z0 : Int32) : Option ((Nat × Int32 × Int32 × Int32 × Int32) ⊕ Int32) :=
  bX10_isTrue_99 S x0 x1 x2 z0 x4
noncomputable def bX10_isTrue_93 (S : MS) (x0 : Nat) (x1 : Int32) (x2 : Int32) (x4 : Int32) : Option ((Nat × Int32 × Int32 × Int32 × Int32) ⊕ Int32) :=
  bX10_isTrue_98 S x0 x1 x2 x4 (1 : Int32)
noncomputable def bX10_isTrue_97 (S : MS) (x0 : Nat) (x1 : Int32) (x2 : Int32) (x4 : Int32) : Option ((Nat × Int32 × Int32 × Int32 × Int32) ⊕ Int32) :=
  bX10_isTrue_98 S x0 x1 x2 x4 (0 : Int32)
noncomputable def bX10_isTrue_118 (S : MS) (z0 : Int32) : Option ((Nat × Int32 × Int32 × Int32 × Int32) ⊕ Int32) :=
  (o_zb z0).bind fun z118 =>
  some (.inr z118)
noncomputable def bX10_isTrue_117 (S : MS) : Option ((Nat × Int32 × Int32 × Int32 × Int32) ⊕ Int32) :=
  bX10_isTrue_118 S (0 : Int32)
noncomputable def bX10_isTrue_7 (S : MS) (x0 : Nat) (x1 : Int32) (x2 : Int32) (x3 : Int32) (x4 : Int32) : Option ((Nat × Int32 × Int32 × Int32 × Int32) ⊕ Int32) :=
  if (144 : Int32) ≤ x4 then
    if x2 = 0 then
      bX10_isTrue_117 S
    else
      if x3 = 0 then
        bX10_isTrue_117 S
      else
        bX10_isTrue_118 S (1 : Int32)
  else
    (o_gP S x0 11 24).bind fun v16 =>
    (o_ld S v16 12 x4).bind fun v21 =>
    if v21 = (-9 : Int32) then
      bX10_isTrue_99 S x0 x1 x2 x3 x4
    else
      (o_gP S x0 11 46).bind fun v32 =>
      (o_ld S v32 12 x1).bind fun v36 =>
      (fX10_isOf v36 (x4 - x4 / (12 : Int32) * (12 : Int32)) (x4 / (12 : Int32))).bind fun v47 =>
      if v47 = 0 then
        bX10_isTrue_99 S x0 x1 x2 x3 x4
      else
        if x3 = 0 then
          bX10_isTrue_97 S x0 x1 (1 : Int32) x4
        else
          (o_gP S x0 11 47).bind fun v60 =>
          (o_ld S v60 13 x1).bind fun v64 =>
          if v64 = 0 then
            (o_gP S x0 11 48).bind fun v85 =>
            (o_ld S v85 12 x1).bind fun v89 =>
            if v89 ≤ v21 then
              bX10_isTrue_97 S x0 x1 (1 : Int32) x4
            else
              bX10_isTrue_93 S x0 x1 (1 : Int32) x4
          else
            (o_gP S x0 11 48).bind fun v71 =>
            (o_ld S v71 12 x1).bind fun v75 =>
            if v21 ≤ v75 then
              bX10_isTrue_97 S x0 x1 (1 : Int32) x4
            else
              bX10_isTrue_93 S x0 x1 (1 : Int32) x4
noncomputable def sX10_isTrue (S : MS) : (Nat × Int32 × Int32 × Int32 × Int32) → Option ((Nat × Int32 × Int32 × Int32 × Int32) ⊕ Int32) := (fun t => bX10_isTrue_7 S t.1 t.2.1 t.2.2.1 t.2.2.2.1 t.2.2.2.2)
noncomputable def hX10_isTrue_7 (S : MS) (x0 : Nat) (x1 : Int32) (x2 : Int32) (x3 : Int32) (x4 : Int32) : Option Int32 := lim (sX10_isTrue S) (x0, x1, x2, x3, x4)
theorem qX10_isTrue_7 (S : MS) (x0 : Nat) (x1 : Int32) (x2 : Int32) (x3 : Int32) (x4 : Int32) : hX10_isTrue_7 S x0 x1 x2 x3 x4 = fin (sX10_isTrue S) (bX10_isTrue_7 S x0 x1 x2 x3 x4) := lim_eq _ _
noncomputable def fX10_isTrue (S : MS) (a0 : Nat) (a1 : Int32) : Option Int32 := fin (sX10_isTrue S) (bX10_isTrue_0 S a0 a1)
noncomputable def bX10_joining_0 (S : MS) (x0 : Nat) : Option (Int32 × MS) :=
  (o_is S x0 11).bind fun _ =>
  (fX10_findJoining S x0).bind fun S1 =>
  (o_gI S1 x0 11 38).bind fun v5 =>
  some (v5, S1)
noncomputable def fX10_joining (S : MS) (a0 : Nat) : Option (Int32 × MS) := bX10_joining_0 S a0
noncomputable def bX10_keep_0 (S : MS) (x0 : Nat) (x1 : Int32) : Option ((Nat × Int32 × Int32 × Int32 × MS) ⊕ (Int32 × MS)) :=
  (fX10_in (x1.toInt64) (0 : Int64) (3 : Int64)).bind fun v6 =>
  if v6 = 0 then
    some (.inr ((-1 : Int32), S))
  else
    (o_is S x0 11).bind fun _ =>
    (fX10_layChart S x0).bind fun S15 =>
    some (.inl (x0, x1, (0 : Int32), (0 : Int32), S15))
noncomputable def bX10_keep_64 (S : MS) (x0 : Nat) (x1 : Int32) (x3 : Int32) (z0 : Int32) (z1 : Int32) : Option ((Nat × Int32 × Int32 × Int32 × MS) ⊕ (Int32 × MS)) :=
  (some ((z0 + z1))).bind fun v65 =>
  (some (x3 + 1)).bind fun v66 =>
  some (.inl (x0, x1, v65, v66, S))
noncomputable def bX10_keep_22 (S : MS) (x0 : Nat) (x1 : Int32) (x2 : Int32) (x3 : Int32) : Option ((Nat × Int32 × Int32 × Int32 × MS) ⊕ (Int32 × MS)) :=
  if (144 : Int32) ≤ x3 then
    (o_gP S x0 11 39).bind fun v73 =>
    (o_st S v73 13 x1 (1 : Int32)).bind fun S78 =>
    some (.inr (x2, S78))
  else
    (o_gP S x0 11 40).bind fun v30 =>
    (o_gP S x0 11 24).bind fun v41 =>
    (o_ld S v41 12 x3).bind fun v45 =>
    (o_st S v30 12 (((144 : Int32) * x1) + x3) v45).bind fun S46 =>
    (o_gP S46 x0 11 24).bind fun v49 =>
    (o_ld S46 v49 12 x3).bind fun v53 =>
    if v53 = (-9 : Int32) then
      bX10_keep_64 S46 x0 x1 x3 x2 (0 : Int32)
    else
      bX10_keep_64 S46 x0 x1 x3 x2 (1 : Int32)
noncomputable def sX10_keep : (Nat × Int32 × Int32 × Int32 × MS) → Option ((Nat × Int32 × Int32 × Int32 × MS) ⊕ (Int32 × MS)) := (fun t => bX10_keep_22 t.2.2.2.2 t.1 t.2.1 t.2.2.1 t.2.2.2.1)
noncomputable def hX10_keep_22 (S : MS) (x0 : Nat) (x1 : Int32) (x2 : Int32) (x3 : Int32) : Option (Int32 × MS) := lim (sX10_keep) (x0, x1, x2, x3, S)
theorem qX10_keep_22 (S : MS) (x0 : Nat) (x1 : Int32) (x2 : Int32) (x3 : Int32) : hX10_keep_22 S x0 x1 x2 x3 = fin (sX10_keep) (bX10_keep_22 S x0 x1 x2 x3) := lim_eq _ _
noncomputable def fX10_keep (S : MS) (a0 : Nat) (a1 : Int32) : Option (Int32 × MS) := fin (sX10_keep) (bX10_keep_0 S a0 a1)
noncomputable def bX10_lengthOf_0 (S : MS) (x0 : Nat) (x1 : Int32) : Option ((Nat × Int32 × Int32 × Int32) ⊕ Int32) :=
  some (.inl (x0, x1, (0 : Int32), (0 : Int32)))
noncomputable def bX10_lengthOf_76 (S : MS) (x0 : Nat) (x1 : Int32) (x3 : Int32) (z0 : Int32) (z1 : Int32) : Option ((Nat × Int32 × Int32 × Int32) ⊕ Int32) :=
  (some ((z0 + z1))).bind fun v77 =>
  (some (x3 + 1)).bind fun v78 =>
  some (.inl (x0, x1, v77, v78))
noncomputable def bX10_lengthOf_75 (S : MS) (x0 : Nat) (x1 : Int32) (x3 : Int32) (z0 : Int32) : Option ((Nat × Int32 × Int32 × Int32) ⊕ Int32) :=
  bX10_lengthOf_76 S x0 x1 x3 z0 (0 : Int32)
noncomputable def bX10_lengthOf_43 (S : MS) (x0 : Nat) (x1 : Int32) (x3 : Int32) (z0 : Int32) (z1 : Int32) : Option ((Nat × Int32 × Int32 × Int32) ⊕ Int32) :=
  (some ((z0 + z1))).bind fun v44 =>
  if (132 : Int32) ≤ x3 then
    bX10_lengthOf_75 S x0 x1 x3 v44
  else
    (o_is S x0 11).bind fun _ =>
    (fX10_isBelow S x0 x3 x1).bind fun v56 =>
    (o_is S x0 11).bind fun _ =>
    (fX10_isBelow S x0 (x3 + (12 : Int32)) x1).bind fun v65 =>
    if v56 = v65 then
      bX10_lengthOf_75 S x0 x1 x3 v44
    else
      bX10_lengthOf_76 S x0 x1 x3 v44 (1 : Int32)
noncomputable def bX10_lengthOf_42 (S : MS) (x0 : Nat) (x1 : Int32) (x3 : Int32) (z0 : Int32) : Option ((Nat × Int32 × Int32 × Int32) ⊕ Int32) :=
  bX10_lengthOf_43 S x0 x1 x3 z0 (0 : Int32)
noncomputable def bX10_lengthOf_4 (S : MS) (x0 : Nat) (x1 : Int32) (x2 : Int32) (x3 : Int32) : Option ((Nat × Int32 × Int32 × Int32) ⊕ Int32) :=
  if (144 : Int32) ≤ x3 then
    some (.inr x2)
  else
    if (11 : Int32) ≤ (x3 - x3 / (12 : Int32) * (12 : Int32)) then
      bX10_lengthOf_42 S x0 x1 x3 x2
    else
      (o_is S x0 11).bind fun _ =>
      (fX10_isBelow S x0 x3 x1).bind fun v24 =>
      (o_is S x0 11).bind fun _ =>
      (fX10_isBelow S x0 (x3 + (1 : Int32)) x1).bind fun v32 =>
      if v24 = v32 then
        bX10_lengthOf_42 S x0 x1 x3 x2
      else
        bX10_lengthOf_43 S x0 x1 x3 x2 (1 : Int32)
noncomputable def sX10_lengthOf (S : MS) : (Nat × Int32 × Int32 × Int32) → Option ((Nat × Int32 × Int32 × Int32) ⊕ Int32) := (fun t => bX10_lengthOf_4 S t.1 t.2.1 t.2.2.1 t.2.2.2)
noncomputable def hX10_lengthOf_4 (S : MS) (x0 : Nat) (x1 : Int32) (x2 : Int32) (x3 : Int32) : Option Int32 := lim (sX10_lengthOf S) (x0, x1, x2, x3)
theorem qX10_lengthOf_4 (S : MS) (x0 : Nat) (x1 : Int32) (x2 : Int32) (x3 : Int32) : hX10_lengthOf_4 S x0 x1 x2 x3 = fin (sX10_lengthOf S) (bX10_lengthOf_4 S x0 x1 x2 x3) := lim_eq _ _
noncomputable def fX10_lengthOf (S : MS) (a0 : Nat) (a1 : Int32) : Option Int32 := fin (sX10_lengthOf S) (bX10_lengthOf_0 S a0 a1)
noncomputable def bX10_level_30 (S : MS) (z0 : Int32) : Option (Int32 × MS) :=
  some (z0, S)
noncomputable def bX10_level_0 (S : MS) (x0 : Nat) (x1 : Int32) : Option (Int32 × MS) :=
  (o_is S x0 11).bind fun _ =>
  b2 (fX10_noAsking S x0 x1 (1 : Int32)) fun v3 S3 =>
  if 0 ≤ v3 then
    (o_gP S3 x0 11 9).bind fun v17 =>
    (o_ld S3 v17 12 x1).bind fun v21 =>
    (o_is S3 x0 11).bind fun _ =>
    (fX10_mendedOf S3 x0 x1).bind fun v24 =>
    (o_is S3 x0 11).bind fun _ =>
    (fX10_levelBy S3 x0 v21 v24).bind fun v27 =>
    bX10_level_30 S3 v27
  else
    bX10_level_30 S3 v3
noncomputable def fX10_level (S : MS) (a0 : Nat) (a1 : Int32) : Option (Int32 × MS) := bX10_level_0 S a0 a1
noncomputable def bX10_piecesOf_0 (S : MS) (x0 : Nat) (x1 : Int32) (x2 : Int32) : Option (((Nat × Int32 × Int32 × Int32 × MS) ⊕ (Nat × Int32 × Int32 × Int32 × Int32 × MS)) ⊕ (Int32 × MS)) :=
  some (.inl (.inl (x0, x1, x2, (0 : Int32), S)))
noncomputable def bX10_piecesOf_2 (S : MS) (x0 : Nat) (x1 : Int32) (x2 : Int32) (x3 : Int32) : Option (((Nat × Int32 × Int32 × Int32 × MS) ⊕ (Nat × Int32 × Int32 × Int32 × Int32 × MS)) ⊕ (Int32 × MS)) :=
  if (144 : Int32) ≤ x3 then
    some (.inl (.inr (x0, x1, x2, (0 : Int32), (0 : Int32), S)))
  else
    (o_gP S x0 11 27).bind fun v10 =>
    (o_st S v10 13 x3 (0 : Int32)).bind fun S15 =>
    (some (x3 + 1)).bind fun v16 =>
    some (.inl (.inl (x0, x1, x2, v16, S15)))
noncomputable def bX10_piecesOf_57 (S : MS) (x0 : Nat) (x1 : Int32) (x2 : Int32) (x3 : Int32) (x4 : Int32) : Option (((Nat × Int32 × Int32 × Int32 × MS) ⊕ (Nat × Int32 × Int32 × Int32 × Int32 × MS)) ⊕ (Int32 × MS)) :=
  (some (x4 + 1)).bind fun v57 =>
  some (.inl (.inr (x0, x1, x2, x3, v57, S)))
noncomputable def bX10_piecesOf_27 (S : MS) (x0 : Nat) (x1 : Int32) (x2 : Int32) (x3 : Int32) (x4 : Int32) : Option (((Nat × Int32 × Int32 × Int32 × MS) ⊕ (Nat × Int32 × Int32 × Int32 × Int32 × MS)) ⊕ (Int32 × MS)) :=
  if (144 : Int32) ≤ x4 then
    some (.inr (x3, S))
  else
    (o_is S x0 11).bind fun _ =>
    (fX10_mayGo S x0 x4 x2 x1).bind fun v40 =>
    if v40 = 0 then
      bX10_piecesOf_57 S x0 x1 x2 x3 x4
    else
      (o_is S x0 11).bind fun _ =>
      (fX10_fill S x0 x4 x2 x1).bind fun S51 =>
      (some (x3 + 1)).bind fun v54 =>
      bX10_piecesOf_57 S51 x0 x1 x2 v54 x4
noncomputable def sX10_piecesOf : ((Nat × Int32 × Int32 × Int32 × MS) ⊕ (Nat × Int32 × Int32 × Int32 × Int32 × MS)) → Option (((Nat × Int32 × Int32 × Int32 × MS) ⊕ (Nat × Int32 × Int32 × Int32 × Int32 × MS)) ⊕ (Int32 × MS)) := (Sum.elim (fun t => bX10_piecesOf_2 t.2.2.2.2 t.1 t.2.1 t.2.2.1 t.2.2.2.1) (fun t => bX10_piecesOf_27 t.2.2.2.2.2 t.1 t.2.1 t.2.2.1 t.2.2.2.1 t.2.2.2.2.1))
noncomputable def hX10_piecesOf_2 (S : MS) (x0 : Nat) (x1 : Int32) (x2 : Int32) (x3 : Int32) : Option (Int32 × MS) := lim (sX10_piecesOf) (.inl (x0, x1, x2, x3, S))
theorem qX10_piecesOf_2 (S : MS) (x0 : Nat) (x1 : Int32) (x2 : Int32) (x3 : Int32) : hX10_piecesOf_2 S x0 x1 x2 x3 = fin (sX10_piecesOf) (bX10_piecesOf_2 S x0 x1 x2 x3) := lim_eq _ _
noncomputable def hX10_piecesOf_27 (S : MS) (x0 : Nat) (x1 : Int32) (x2 : Int32) (x3 : Int32) (x4 : Int32) : Option (Int32 × MS) := lim (sX10_piecesOf) (.inr (x0, x1, x2, x3, x4, S))
theorem qX10_piecesOf_27 (S : MS) (x0 : Nat) (x1 : Int32) (x2 : Int32) (x3 : Int32) (x4 : Int32) : hX10_piecesOf_27 S x0 x1 x2 x3 x4 = fin (sX10_piecesOf) (bX10_piecesOf_27 S x0 x1 x2 x3 x4) := lim_eq _ _
noncomputable def fX10_piecesOf (S : MS) (a0 : Nat) (a1 : Int32) (a2 : Int32) : Option (Int32 × MS) := fin (sX10_piecesOf) (bX10_piecesOf_0 S a0 a1 a2)
noncomputable def bX10_wrongOf_0 (S : MS) (x0 : Nat) (x1 : Int32) : Option ((Nat × Int32 × Int32 × Int32) ⊕ Int32) :=
  some (.inl (x0, x1, (0 : Int32), (0 : Int32)))
noncomputable def bX10_wrongOf_56 (S : MS) (x0 : Nat) (x1 : Int32) (x3 : Int32) (z0 : Int32) (z1 : Int32) : Option ((Nat × Int32 × Int32 × Int32) ⊕ Int32) :=
  (some ((z0 + z1))).bind fun v57 =>
  (some (x3 + 1)).bind fun v58 =>
  some (.inl (x0, x1, v57, v58))
noncomputable def bX10_wrongOf_55 (S : MS) (x0 : Nat) (x1 : Int32) (x3 : Int32) (z0 : Int32) : Option ((Nat × Int32 × Int32 × Int32) ⊕ Int32) :=
  bX10_wrongOf_56 S x0 x1 x3 z0 (0 : Int32)
noncomputable def bX10_wrongOf_37 (S : MS) (x0 : Nat) (x1 : Int32) (x3 : Int32) (z0 : Int32) (z1 : Int32) : Option ((Nat × Int32 × Int32 × Int32) ⊕ Int32) :=
  (o_gP S x0 11 21).bind fun v39 =>
  (o_ld S v39 12 x3).bind fun v43 =>
  (o_is S x0 11).bind fun _ =>
  (fX10_isBelow S x0 v43 x1).bind fun v45 =>
  if z1 = v45 then
    bX10_wrongOf_55 S x0 x1 x3 z0
  else
    bX10_wrongOf_56 S x0 x1 x3 z0 (1 : Int32)
noncomputable def bX10_wrongOf_4 (S : MS) (x0 : Nat) (x1 : Int32) (x2 : Int32) (x3 : Int32) : Option ((Nat × Int32 × Int32 × Int32) ⊕ Int32) :=
  (o_gI S x0 11 1).bind fun v6 =>
  if v6 ≤ x3 then
    some (.inr x2)
  else
    (o_gP S x0 11 20).bind fun v14 =>
    (o_ld S v14 12 x3).bind fun v18 =>
    if v18 < 0 then
      bX10_wrongOf_55 S x0 x1 x3 x2
    else
      (o_gP S x0 11 22).bind fun v23 =>
      (o_ld S v23 12 x3).bind fun v27 =>
      if x1 ≤ v27 then
        bX10_wrongOf_37 S x0 x1 x3 x2 (0 : Int32)
      else
        bX10_wrongOf_37 S x0 x1 x3 x2 (1 : Int32)
noncomputable def sX10_wrongOf (S : MS) : (Nat × Int32 × Int32 × Int32) → Option ((Nat × Int32 × Int32 × Int32) ⊕ Int32) := (fun t => bX10_wrongOf_4 S t.1 t.2.1 t.2.2.1 t.2.2.2)
noncomputable def hX10_wrongOf_4 (S : MS) (x0 : Nat) (x1 : Int32) (x2 : Int32) (x3 : Int32) : Option Int32 := lim (sX10_wrongOf S) (x0, x1, x2, x3)
theorem qX10_wrongOf_4 (S : MS) (x0 : Nat) (x1 : Int32) (x2 : Int32) (x3 : Int32) : hX10_wrongOf_4 S x0 x1 x2 x3 = fin (sX10_wrongOf S) (bX10_wrongOf_4 S x0 x1 x2 x3) := lim_eq _ _
noncomputable def fX10_wrongOf (S : MS) (a0 : Nat) (a1 : Int32) : Option Int32 := fin (sX10_wrongOf S) (bX10_wrongOf_0 S a0 a1)
set_option maxHeartbeats 4000000 in
set_option maxRecDepth 100000 in
theorem wX10_drift_0 {p : Program} {l : Launch} {e : Env} {s : State} {m : MethodId} {args : Array Value} {below : List Frame} {meth : Method} {c : Code} {D : va_G} {cy : Nat → ClassId} (ad : Nat → Nat) (A : Nat → Prop) {S : MS} {S' : MS} {H : Heap} {locs : List Loc} {n0 : Nat} {r : Int32} {out : (((Nat × Int32 × Int32 × Int32 × Int64 × Int64 × Int32 × MS) ⊕ (Nat × Int32 × Int32 × Int32 × Int64 × Int64 × Int32 × Int32 × MS)) ⊕ (Int32 × MS))} {ls : Array Slot} {x0 : Nat} {x1 : Int32} {x2 : Int32} (C0 : CX p s m args meth c RX10 cX10_drift 10 D cy) (M : ST D cy ad A s.heap (ZN n0 s.heap.size) S H locs) (hr : meth.sig.returnType = some .int) (hF : bX10_drift_0 S x0 x1 x2 = some out) (hl : lv_has ls 10 [(0, .ref (ad x0)), (1, .int x1), (2, .int x2)]) (Kr : ∀ r9, out = .inr r9 → r9 = (r, S')) (Kh0 : ∀ (y0 : Nat) (y1 : Int32) (y2 : Int32) (y3 : Int32) (y4 : Int64) (y5 : Int64) (y6 : Int32) (S2 : MS), out = .inl (.inl (y0, y1, y2, y3, y4, y5, y6, S2)) → ∀ (H1 : Heap) (locs1 : List Loc) (ls1 : Array Slot), ST D cy ad A s.heap (ZN n0 s.heap.size) S2 H1 locs1 → lv_has ls1 10 [(0, .ref (ad y0)), (1, .int y1), (2, .int y2), (3, .int y3), (4, .long y4), (6, .long y5), (8, .int y6)] → W p l e rmX10_drift s m args below meth c H1 locs1 0 0 (MQ below (QcM D cy ad A n0 S' (some (.int r))) args s 0 0 A) (F0 m 58 ls1 [])) (Kh1 : ∀ (y0 : Nat) (y1 : Int32) (y2 : Int32) (y3 : Int32) (y4 : Int64) (y5 : Int64) (y6 : Int32) (y7 : Int32) (S2 : MS), out = .inl (.inr (y0, y1, y2, y3, y4, y5, y6, y7, S2)) → ∀ (H1 : Heap) (locs1 : List Loc) (ls1 : Array Slot), ST D cy ad A s.heap (ZN n0 s.heap.size) S2 H1 locs1 → lv_has ls1 10 [(0, .ref (ad y0)), (1, .int y1), (2, .int y2), (3, .int y3), (4, .long y4), (6, .long y5), (8, .int y6), (9, .int y7)] → W p l e rmX10_drift s m args below meth c H1 locs1 0 0 (MQ below (QcM D cy ad A n0 S' (some (.int r))) args s 0 0 A) (F0 m 68 ls1 [])) : W p l e rmX10_drift s m args below meth c H locs 0 0 (MQ below (QcM D cy ad A n0 S' (some (.int r))) args s 0 0 A) (F0 m 0 ls []) := by
  unfold bX10_drift_0 at hF
  obtain ⟨hx, hb, -, hown, -, hts, -⟩ := id C0
  refine lv_iload_n hx hb dX10_drift_0 rfl (lv_at hl 1 rfl) ?_
  refine lv_i2l (v := (x1.toInt64)) hx hb dX10_drift_1 rfl ?_
  refine lv_lconst (v := (0 : Int64)) hx hb dX10_drift_2 (by decide) ?_
  refine lv_ldc2 (v := (3 : Int64)) hx hb hown (hts _ (uw_of 1287 (by decide +kernel) rfl)) dX10_drift_3 ?_
  obtain ⟨v6, hcl, hF⟩ := ob hF
  refine go_SI (r_S (rest := []) (As := [.long (x1.toInt64), .long (0 : Int64), .long (3 : Int64)]) C0 cb_X10_156 (tX10_in l D cy ad hcl) (pre_S C0) hl dX10_drift_6 rfl (Nat.le_of_ble_eq_true rfl) ⟨rfl, rfl⟩ ⟨Nat.le_of_ble_eq_true rfl, Nat.le_of_ble_eq_true rfl⟩ ⟨Nat.le_of_ble_eq_true rfl, Nat.le_of_ble_eq_true rfl⟩ rfl) ?_
  refine lv_if_ne (tgt := 14) hx hb dX10_drift_9 (by decide) (fun hc => ?_) (fun hc => ?_)
  · have hF := oi_f hc hF
    refine lv_iload_n hx hb dX10_drift_14 rfl (lv_at hl 2 rfl) ?_
    refine lv_i2l (v := (x2.toInt64)) hx hb dX10_drift_15 rfl ?_
    refine lv_lconst (v := (0 : Int64)) hx hb dX10_drift_16 (by decide) ?_
    refine lv_ldc2 (v := (4 : Int64)) hx hb hown (hts _ (uw_of 1380 (by decide +kernel) rfl)) dX10_drift_17 ?_
    obtain ⟨v20, hcl, hF⟩ := ob hF
    refine go_SI (r_S (rest := []) (As := [.long (x2.toInt64), .long (0 : Int64), .long (4 : Int64)]) C0 cb_X10_156 (tX10_in l D cy ad hcl) (pre_S C0) hl dX10_drift_20 rfl (Nat.le_of_ble_eq_true rfl) ⟨rfl, rfl⟩ ⟨Nat.le_of_ble_eq_true rfl, Nat.le_of_ble_eq_true rfl⟩ ⟨Nat.le_of_ble_eq_true rfl, Nat.le_of_ble_eq_true rfl⟩ rfl) ?_
    refine lv_if_ne (tgt := 29) hx hb dX10_drift_23 (by decide) (fun hc => ?_) (fun hc => ?_)
    · have hF := oi_f hc hF
      refine lv_aload_n hx hb dX10_drift_29 rfl (lv_at hl 0 rfl) ?_
      obtain ⟨v30, hv, hF⟩ := ob hF
      refine k_getP C0 M.1 hv fl_X10_98 dX10_drift_30 ?_
      refine lv_iload_n hx hb dX10_drift_33 rfl (lv_at hl 1 rfl) ?_
      obtain ⟨v34, hv, hF⟩ := ob hF
      refine k_ldZ C0 M.1 hv dX10_drift_34 ?_
      refine lv_if_ne (tgt := 41) hx hb dX10_drift_35 (by decide) (fun hc => ?_) (fun hc => ?_)
      · have hF := oi_f hc hF
        refine lv_aload_n hx hb dX10_drift_41 rfl (lv_at hl 0 rfl) ?_
        obtain ⟨_, hrec, hF⟩ := ob hF
        obtain ⟨S42, hcl, hF⟩ := ob hF
        refine go_MV (r_V (rest := []) (As := []) C0 cb_X10_237 M.1 hrec (tX10_layChart l D cy ad A hcl) (pre_R C0 M.1) hl dX10_drift_42 rfl (Nat.le_of_ble_eq_true rfl) ⟨rfl, rfl⟩ ⟨Nat.le_of_ble_eq_true rfl, Nat.le_of_ble_eq_true rfl⟩ ⟨Nat.le_of_ble_eq_true rfl, Nat.le_of_ble_eq_true rfl⟩ rfl) M (fun H locs M => ?_)
        refine lv_bipush (v := (-3 : Int32)) hx hb dX10_drift_45 (by decide) ?_
        refine lv_istore_n (lv' := [(3, .int (-3 : Int32)), (0, .ref (ad x0)), (1, .int x1), (2, .int x2)]) hx hb dX10_drift_47 rfl hl (by decide) rfl (fun ls hl => ?_)
        refine lv_lconst (v := (0 : Int64)) hx hb dX10_drift_48 (by decide) ?_
        refine lv_lstore (lv' := [(4, .long (0 : Int64)), (3, .int (-3 : Int32)), (0, .ref (ad x0)), (1, .int x1), (2, .int x2)]) hx hb dX10_drift_49 hl (by decide) rfl (fun ls hl => ?_)
        refine lv_lconst (v := (1 : Int64)) hx hb dX10_drift_51 (by decide) ?_
        refine lv_lstore (lv' := [(6, .long (1 : Int64)), (4, .long (0 : Int64)), (3, .int (-3 : Int32)), (0, .ref (ad x0)), (1, .int x1), (2, .int x2)]) hx hb dX10_drift_52 hl (by decide) rfl (fun ls hl => ?_)
        refine lv_iload_n hx hb dX10_drift_54 rfl (lv_at hl 5 rfl) ?_
        refine lv_ineg hx hb dX10_drift_55 ?_
        obtain ⟨v56, hv, hF⟩ := ob hF
        have hv := vtI hv
        refine vtopi hv ?_
        refine lv_istore (lv' := [(8, .int v56), (6, .long (1 : Int64)), (4, .long (0 : Int64)), (3, .int (-3 : Int32)), (0, .ref (ad x0)), (1, .int x1), (2, .int x2)]) hx hb dX10_drift_56 hl (by decide) rfl (fun ls hl => ?_)
        exact Kh0 _ _ _ _ _ _ _ _ (Option.some.inj hF).symm _ _ _ M (lv_sub hl [4, 5, 6, 3, 2, 1, 0] rfl)
      · have hF := oi_t hc hF
        refine lv_bipush (v := (-3 : Int32)) hx hb dX10_drift_38 (by decide) ?_
        obtain ⟨rfl, rfl⟩ := Prod.mk.inj (Kr _ (Option.some.inj hF).symm)
        exact rt_MI C0 M hr dX10_drift_40
    · have hF := oi_t hc hF
      refine lv_bipush (v := (-2 : Int32)) hx hb dX10_drift_26 (by decide) ?_
      obtain ⟨rfl, rfl⟩ := Prod.mk.inj (Kr _ (Option.some.inj hF).symm)
      exact rt_MI C0 M hr dX10_drift_28
  · have hF := oi_t hc hF
    refine lv_iconst (v := (-1 : Int32)) hx hb dX10_drift_12 (by decide) ?_
    obtain ⟨rfl, rfl⟩ := Prod.mk.inj (Kr _ (Option.some.inj hF).symm)
    exact rt_MI C0 M hr dX10_drift_13
set_option maxHeartbeats 4000000 in
set_option maxRecDepth 100000 in
theorem wX10_drift_58 {p : Program} {l : Launch} {e : Env} {s : State} {m : MethodId} {args : Array Value} {below : List Frame} {meth : Method} {c : Code} {D : va_G} {cy : Nat → ClassId} (ad : Nat → Nat) (A : Nat → Prop) {S : MS} {S' : MS} {H : Heap} {locs : List Loc} {n0 : Nat} {r : Int32} {out : (((Nat × Int32 × Int32 × Int32 × Int64 × Int64 × Int32 × MS) ⊕ (Nat × Int32 × Int32 × Int32 × Int64 × Int64 × Int32 × Int32 × MS)) ⊕ (Int32 × MS))} {ls : Array Slot} {x0 : Nat} {x1 : Int32} {x2 : Int32} {x3 : Int32} {x4 : Int64} {x6 : Int64} {x8 : Int32} (C0 : CX p s m args meth c RX10 cX10_drift 10 D cy) (M : ST D cy ad A s.heap (ZN n0 s.heap.size) S H locs) (hr : meth.sig.returnType = some .int) (hF : bX10_drift_58 S x0 x1 x2 x3 x4 x6 x8 = some out) (hl : lv_has ls 10 [(0, .ref (ad x0)), (1, .int x1), (2, .int x2), (3, .int x3), (4, .long x4), (6, .long x6), (8, .int x8)]) (Kr : ∀ r9, out = .inr r9 → r9 = (r, S')) (Kh0 : ∀ (y0 : Nat) (y1 : Int32) (y2 : Int32) (y3 : Int32) (y4 : Int64) (y5 : Int64) (y6 : Int32) (S2 : MS), out = .inl (.inl (y0, y1, y2, y3, y4, y5, y6, S2)) → ∀ (H1 : Heap) (locs1 : List Loc) (ls1 : Array Slot), ST D cy ad A s.heap (ZN n0 s.heap.size) S2 H1 locs1 → lv_has ls1 10 [(0, .ref (ad y0)), (1, .int y1), (2, .int y2), (3, .int y3), (4, .long y4), (6, .long y5), (8, .int y6)] → W p l e rmX10_drift s m args below meth c H1 locs1 0 0 (MQ below (QcM D cy ad A n0 S' (some (.int r))) args s 0 0 A) (F0 m 58 ls1 [])) (Kh1 : ∀ (y0 : Nat) (y1 : Int32) (y2 : Int32) (y3 : Int32) (y4 : Int64) (y5 : Int64) (y6 : Int32) (y7 : Int32) (S2 : MS), out = .inl (.inr (y0, y1, y2, y3, y4, y5, y6, y7, S2)) → ∀ (H1 : Heap) (locs1 : List Loc) (ls1 : Array Slot), ST D cy ad A s.heap (ZN n0 s.heap.size) S2 H1 locs1 → lv_has ls1 10 [(0, .ref (ad y0)), (1, .int y1), (2, .int y2), (3, .int y3), (4, .long y4), (6, .long y5), (8, .int y6), (9, .int y7)] → W p l e rmX10_drift s m args below meth c H1 locs1 0 0 (MQ below (QcM D cy ad A n0 S' (some (.int r))) args s 0 0 A) (F0 m 68 ls1 [])) : W p l e rmX10_drift s m args below meth c H locs 0 0 (MQ below (QcM D cy ad A n0 S' (some (.int r))) args s 0 0 A) (F0 m 58 ls []) := by
  unfold bX10_drift_58 at hF
  obtain ⟨hx, hb, -, hown, -, hts, -⟩ := id C0
  refine lv_iload hx hb dX10_drift_58 (lv_at hl 6 rfl) ?_
  refine lv_iload_n hx hb dX10_drift_60 rfl (lv_at hl 2 rfl) ?_
  refine lv_icmp_gt (tgt := 153) hx hb dX10_drift_61 (by decide) (fun hc => ?_) (fun hc => ?_)
  · have hF := oi_t hc hF
    refine lv_iload_n hx hb dX10_drift_153 rfl (lv_at hl 3 rfl) ?_
    obtain ⟨rfl, rfl⟩ := Prod.mk.inj (Kr _ (Option.some.inj hF).symm)
    exact rt_MI C0 M hr dX10_drift_154
  · have hF := oi_f hc hF
    refine lv_iload_n hx hb dX10_drift_64 rfl (lv_at hl 2 rfl) ?_
    refine lv_ineg hx hb dX10_drift_65 ?_
    obtain ⟨v66, hv, hF⟩ := ob hF
    have hv := vtI hv
    refine vtopi hv ?_
    refine lv_istore (lv' := [(9, .int v66), (0, .ref (ad x0)), (1, .int x1), (2, .int x2), (3, .int x3), (4, .long x4), (6, .long x6), (8, .int x8)]) hx hb dX10_drift_66 hl (by decide) rfl (fun ls hl => ?_)
    exact Kh1 _ _ _ _ _ _ _ _ _ (Option.some.inj hF).symm _ _ _ M (lv_sub hl [1, 2, 3, 4, 5, 6, 7, 0] rfl)
set_option maxHeartbeats 4000000 in
set_option maxRecDepth 100000 in
theorem wX10_drift_141 {p : Program} {l : Launch} {e : Env} {s : State} {m : MethodId} {args : Array Value} {below : List Frame} {meth : Method} {c : Code} {D : va_G} {cy : Nat → ClassId} (ad : Nat → Nat) (A : Nat → Prop) {S : MS} {S' : MS} {H : Heap} {locs : List Loc} {n0 : Nat} {r : Int32} {out : (((Nat × Int32 × Int32 × Int32 × Int64 × Int64 × Int32 × MS) ⊕ (Nat × Int32 × Int32 × Int32 × Int64 × Int64 × Int32 × Int32 × MS)) ⊕ (Int32 × MS))} {ls : Array Slot} {x0 : Nat} {x1 : Int32} {x2 : Int32} {x3 : Int32} {x4 : Int64} {x6 : Int64} {x8 : Int32} {x9 : Int32} (C0 : CX p s m args meth c RX10 cX10_drift 10 D cy) (M : ST D cy ad A s.heap (ZN n0 s.heap.size) S H locs) (hr : meth.sig.returnType = some .int) (hF : bX10_drift_141 S x0 x1 x2 x3 x4 x6 x8 x9 = some out) (hl : lv_has ls 10 [(0, .ref (ad x0)), (1, .int x1), (2, .int x2), (3, .int x3), (4, .long x4), (6, .long x6), (8, .int x8), (9, .int x9)]) (Kr : ∀ r9, out = .inr r9 → r9 = (r, S')) (Kh0 : ∀ (y0 : Nat) (y1 : Int32) (y2 : Int32) (y3 : Int32) (y4 : Int64) (y5 : Int64) (y6 : Int32) (S2 : MS), out = .inl (.inl (y0, y1, y2, y3, y4, y5, y6, S2)) → ∀ (H1 : Heap) (locs1 : List Loc) (ls1 : Array Slot), ST D cy ad A s.heap (ZN n0 s.heap.size) S2 H1 locs1 → lv_has ls1 10 [(0, .ref (ad y0)), (1, .int y1), (2, .int y2), (3, .int y3), (4, .long y4), (6, .long y5), (8, .int y6)] → W p l e rmX10_drift s m args below meth c H1 locs1 0 0 (MQ below (QcM D cy ad A n0 S' (some (.int r))) args s 0 0 A) (F0 m 58 ls1 [])) (Kh1 : ∀ (y0 : Nat) (y1 : Int32) (y2 : Int32) (y3 : Int32) (y4 : Int64) (y5 : Int64) (y6 : Int32) (y7 : Int32) (S2 : MS), out = .inl (.inr (y0, y1, y2, y3, y4, y5, y6, y7, S2)) → ∀ (H1 : Heap) (locs1 : List Loc) (ls1 : Array Slot), ST D cy ad A s.heap (ZN n0 s.heap.size) S2 H1 locs1 → lv_has ls1 10 [(0, .ref (ad y0)), (1, .int y1), (2, .int y2), (3, .int y3), (4, .long y4), (6, .long y5), (8, .int y6), (9, .int y7)] → W p l e rmX10_drift s m args below meth c H1 locs1 0 0 (MQ below (QcM D cy ad A n0 S' (some (.int r))) args s 0 0 A) (F0 m 68 ls1 [])) : W p l e rmX10_drift s m args below meth c H locs 0 0 (MQ below (QcM D cy ad A n0 S' (some (.int r))) args s 0 0 A) (F0 m 141 ls []) := by
  unfold bX10_drift_141 at hF
  obtain ⟨hx, hb, -, hown, -, hts, -⟩ := id C0
  obtain ⟨v141, hv, hF⟩ := ob hF
  refine lv_iinc (v := v141) (lv' := [(9, .int v141), (0, .ref (ad x0)), (1, .int x1), (2, .int x2), (3, .int x3), (4, .long x4), (6, .long x6), (8, .int x8)]) hx hb dX10_drift_141 hl (k := 7) rfl (by rw [← vtI hv]; rfl) (by decide) rfl (fun ls hl => ?_)
  refine lv_goto (tgt := 68) hx hb dX10_drift_144 (by decide) ?_
  exact Kh1 _ _ _ _ _ _ _ _ _ (Option.some.inj hF).symm _ _ _ M (lv_sub hl [1, 2, 3, 4, 5, 6, 7, 0] rfl)
set_option maxHeartbeats 4000000 in
set_option maxRecDepth 100000 in
theorem wX10_drift_113 {p : Program} {l : Launch} {e : Env} {s : State} {m : MethodId} {args : Array Value} {below : List Frame} {meth : Method} {c : Code} {D : va_G} {cy : Nat → ClassId} (ad : Nat → Nat) (A : Nat → Prop) {S : MS} {S' : MS} {H : Heap} {locs : List Loc} {n0 : Nat} {r : Int32} {out : (((Nat × Int32 × Int32 × Int32 × Int64 × Int64 × Int32 × MS) ⊕ (Nat × Int32 × Int32 × Int32 × Int64 × Int64 × Int32 × Int32 × MS)) ⊕ (Int32 × MS))} {ls : Array Slot} {x0 : Nat} {x1 : Int32} {x2 : Int32} {x8 : Int32} {x9 : Int32} (C0 : CX p s m args meth c RX10 cX10_drift 10 D cy) (M : ST D cy ad A s.heap (ZN n0 s.heap.size) S H locs) (hr : meth.sig.returnType = some .int) (hF : bX10_drift_113 S x0 x1 x2 x8 x9 = some out) (hl : lv_has ls 10 [(0, .ref (ad x0)), (1, .int x1), (2, .int x2), (8, .int x8), (9, .int x9)]) (Kr : ∀ r9, out = .inr r9 → r9 = (r, S')) (Kh0 : ∀ (y0 : Nat) (y1 : Int32) (y2 : Int32) (y3 : Int32) (y4 : Int64) (y5 : Int64) (y6 : Int32) (S2 : MS), out = .inl (.inl (y0, y1, y2, y3, y4, y5, y6, S2)) → ∀ (H1 : Heap) (locs1 : List Loc) (ls1 : Array Slot), ST D cy ad A s.heap (ZN n0 s.heap.size) S2 H1 locs1 → lv_has ls1 10 [(0, .ref (ad y0)), (1, .int y1), (2, .int y2), (3, .int y3), (4, .long y4), (6, .long y5), (8, .int y6)] → W p l e rmX10_drift s m args below meth c H1 locs1 0 0 (MQ below (QcM D cy ad A n0 S' (some (.int r))) args s 0 0 A) (F0 m 58 ls1 [])) (Kh1 : ∀ (y0 : Nat) (y1 : Int32) (y2 : Int32) (y3 : Int32) (y4 : Int64) (y5 : Int64) (y6 : Int32) (y7 : Int32) (S2 : MS), out = .inl (.inr (y0, y1, y2, y3, y4, y5, y6, y7, S2)) → ∀ (H1 : Heap) (locs1 : List Loc) (ls1 : Array Slot), ST D cy ad A s.heap (ZN n0 s.heap.size) S2 H1 locs1 → lv_has ls1 10 [(0, .ref (ad y0)), (1, .int y1), (2, .int y2), (3, .int y3), (4, .long y4), (6, .long y5), (8, .int y6), (9, .int y7)] → W p l e rmX10_drift s m args below meth c H1 locs1 0 0 (MQ below (QcM D cy ad A n0 S' (some (.int r))) args s 0 0 A) (F0 m 68 ls1 [])) : W p l e rmX10_drift s m args below meth c H locs 0 0 (MQ below (QcM D cy ad A n0 S' (some (.int r))) args s 0 0 A) (F0 m 113 ls []) := by
  unfold bX10_drift_113 at hF
  obtain ⟨hx, hb, -, hown, -, hts, -⟩ := id C0
  refine lv_bipush (v := (100 : Int32)) hx hb dX10_drift_113 (by decide) ?_
  refine lv_iload hx hb dX10_drift_115 (lv_at hl 3 rfl) ?_
  refine lv_bipush (v := (11 : Int32)) hx hb dX10_drift_117 (by decide) ?_
  refine lv_iadd hx hb dX10_drift_119 ?_
  refine lv_imul hx hb dX10_drift_120 ?_
  refine lv_iload hx hb dX10_drift_121 (lv_at hl 4 rfl) ?_
  refine lv_iadd hx hb dX10_drift_123 ?_
  refine lv_bipush (v := (11 : Int32)) hx hb dX10_drift_124 (by decide) ?_
  refine lv_iadd hx hb dX10_drift_126 ?_
  obtain ⟨v127, hv, hF⟩ := ob hF
  have hv := vtI hv
  refine vtopi hv ?_
  refine lv_istore_n (lv' := [(3, .int v127), (0, .ref (ad x0)), (1, .int x1), (2, .int x2), (8, .int x8), (9, .int x9)]) hx hb dX10_drift_127 rfl hl (by decide) rfl (fun ls hl => ?_)
  refine lv_aload_n hx hb dX10_drift_128 rfl (lv_at hl 1 rfl) ?_
  obtain ⟨v129, hv, hF⟩ := ob hF
  refine k_getJ C0 M.1 hv fl_X10_375 dX10_drift_129 ?_
  refine lv_lstore (lv' := [(4, .long v129), (3, .int v127), (0, .ref (ad x0)), (1, .int x1), (2, .int x2), (8, .int x8), (9, .int x9)]) hx hb dX10_drift_132 hl (by decide) rfl (fun ls hl => ?_)
  refine lv_aload_n hx hb dX10_drift_134 rfl (lv_at hl 2 rfl) ?_
  obtain ⟨v135, hv, hF⟩ := ob hF
  refine k_getI C0 M.1 hv fl_X10_372 dX10_drift_135 ?_
  refine lv_i2l (v := (v135.toInt64)) hx hb dX10_drift_138 rfl ?_
  obtain ⟨v139, hv, hF⟩ := ob hF
  have hv := vtI hv
  refine vtopl hv ?_
  refine lv_lstore (lv' := [(6, .long v139), (4, .long v129), (3, .int v127), (0, .ref (ad x0)), (1, .int x1), (2, .int x2), (8, .int x8), (9, .int x9)]) hx hb dX10_drift_139 hl (by decide) rfl (fun ls hl => ?_)
  exact wX10_drift_141 ad A C0 M hr hF (lv_sub hl [3, 4, 5, 2, 1, 0, 6, 7] rfl) Kr Kh0 Kh1
set_option maxHeartbeats 4000000 in
set_option maxRecDepth 100000 in
theorem wX10_drift_68 {p : Program} {l : Launch} {e : Env} {s : State} {m : MethodId} {args : Array Value} {below : List Frame} {meth : Method} {c : Code} {D : va_G} {cy : Nat → ClassId} (ad : Nat → Nat) (A : Nat → Prop) {S : MS} {S' : MS} {H : Heap} {locs : List Loc} {n0 : Nat} {r : Int32} {out : (((Nat × Int32 × Int32 × Int32 × Int64 × Int64 × Int32 × MS) ⊕ (Nat × Int32 × Int32 × Int32 × Int64 × Int64 × Int32 × Int32 × MS)) ⊕ (Int32 × MS))} {ls : Array Slot} {x0 : Nat} {x1 : Int32} {x2 : Int32} {x3 : Int32} {x4 : Int64} {x6 : Int64} {x8 : Int32} {x9 : Int32} (C0 : CX p s m args meth c RX10 cX10_drift 10 D cy) (M : ST D cy ad A s.heap (ZN n0 s.heap.size) S H locs) (hr : meth.sig.returnType = some .int) (hF : bX10_drift_68 S x0 x1 x2 x3 x4 x6 x8 x9 = some out) (hl : lv_has ls 10 [(0, .ref (ad x0)), (1, .int x1), (2, .int x2), (3, .int x3), (4, .long x4), (6, .long x6), (8, .int x8), (9, .int x9)]) (Kr : ∀ r9, out = .inr r9 → r9 = (r, S')) (Kh0 : ∀ (y0 : Nat) (y1 : Int32) (y2 : Int32) (y3 : Int32) (y4 : Int64) (y5 : Int64) (y6 : Int32) (S2 : MS), out = .inl (.inl (y0, y1, y2, y3, y4, y5, y6, S2)) → ∀ (H1 : Heap) (locs1 : List Loc) (ls1 : Array Slot), ST D cy ad A s.heap (ZN n0 s.heap.size) S2 H1 locs1 → lv_has ls1 10 [(0, .ref (ad y0)), (1, .int y1), (2, .int y2), (3, .int y3), (4, .long y4), (6, .long y5), (8, .int y6)] → W p l e rmX10_drift s m args below meth c H1 locs1 0 0 (MQ below (QcM D cy ad A n0 S' (some (.int r))) args s 0 0 A) (F0 m 58 ls1 [])) (Kh1 : ∀ (y0 : Nat) (y1 : Int32) (y2 : Int32) (y3 : Int32) (y4 : Int64) (y5 : Int64) (y6 : Int32) (y7 : Int32) (S2 : MS), out = .inl (.inr (y0, y1, y2, y3, y4, y5, y6, y7, S2)) → ∀ (H1 : Heap) (locs1 : List Loc) (ls1 : Array Slot), ST D cy ad A s.heap (ZN n0 s.heap.size) S2 H1 locs1 → lv_has ls1 10 [(0, .ref (ad y0)), (1, .int y1), (2, .int y2), (3, .int y3), (4, .long y4), (6, .long y5), (8, .int y6), (9, .int y7)] → W p l e rmX10_drift s m args below meth c H1 locs1 0 0 (MQ below (QcM D cy ad A n0 S' (some (.int r))) args s 0 0 A) (F0 m 68 ls1 [])) : W p l e rmX10_drift s m args below meth c H locs 0 0 (MQ below (QcM D cy ad A n0 S' (some (.int r))) args s 0 0 A) (F0 m 68 ls []) := by
  unfold bX10_drift_68 at hF
  obtain ⟨hx, hb, -, hown, -, hts, -⟩ := id C0
  refine lv_iload hx hb dX10_drift_68 (lv_at hl 7 rfl) ?_
  refine lv_iload_n hx hb dX10_drift_70 rfl (lv_at hl 2 rfl) ?_
  refine lv_icmp_gt (tgt := 147) hx hb dX10_drift_71 (by decide) (fun hc => ?_) (fun hc => ?_)
  · have hF := oi_t hc hF
    obtain ⟨v147, hv, hF⟩ := ob hF
    refine lv_iinc (v := v147) (lv' := [(8, .int v147), (0, .ref (ad x0)), (1, .int x1), (2, .int x2), (3, .int x3), (4, .long x4), (6, .long x6), (9, .int x9)]) hx hb dX10_drift_147 hl (k := 6) rfl (by rw [← vtI hv]; rfl) (by decide) rfl (fun ls hl => ?_)
    refine lv_goto (tgt := 58) hx hb dX10_drift_150 (by decide) ?_
    exact Kh0 _ _ _ _ _ _ _ _ (Option.some.inj hF).symm _ _ _ M (lv_sub hl [1, 2, 3, 4, 5, 6, 0] rfl)
  · have hF := oi_f hc hF
    refine lv_aload_n hx hb dX10_drift_74 rfl (lv_at hl 0 rfl) ?_
    refine lv_iload hx hb dX10_drift_75 (lv_at hl 6 rfl) ?_
    refine lv_iload hx hb dX10_drift_77 (lv_at hl 7 rfl) ?_
    refine lv_iload_n hx hb dX10_drift_79 rfl (lv_at hl 1 rfl) ?_
    obtain ⟨_, hrec, hF⟩ := ob hF
    obtain ⟨S80, hcl, hF⟩ := ob hF
    refine go_MV (r_V (rest := []) (As := [.int x8, .int x9, .int x1]) C0 cb_X10_382 M.1 hrec (tX10_layBeside l D cy ad A hcl) (pre_R C0 M.1) hl dX10_drift_80 rfl (Nat.le_of_ble_eq_true rfl) ⟨rfl, rfl⟩ ⟨Nat.le_of_ble_eq_true rfl, Nat.le_of_ble_eq_true rfl⟩ ⟨Nat.le_of_ble_eq_true rfl, Nat.le_of_ble_eq_true rfl⟩ rfl) M (fun H locs M => ?_)
    refine lv_aload_n hx hb dX10_drift_83 rfl (lv_at hl 0 rfl) ?_
    obtain ⟨v84, hv, hF⟩ := ob hF
    refine k_getI C0 M.1 hv fl_X10_372 dX10_drift_84 ?_
    refine lv_if_le (tgt := 141) hx hb dX10_drift_87 (by decide) (fun hc => ?_) (fun hc => ?_)
    · have hF := oi_t hc hF
      exact wX10_drift_141 ad A C0 M hr hF (lv_sub hl [0, 1, 2, 3, 4, 5, 6, 7] rfl) Kr Kh0 Kh1
    · have hF := oi_f hc hF
      refine lv_iload_n hx hb dX10_drift_90 rfl (lv_at hl 3 rfl) ?_
      refine lv_if_lt (tgt := 113) hx hb dX10_drift_91 (by decide) (fun hc => ?_) (fun hc => ?_)
      · have hF := oi_t hc hF
        exact wX10_drift_113 ad A C0 M hr hF (lv_sub hl [0, 1, 2, 6, 7] rfl) Kr Kh0 Kh1
      · have hF := oi_f hc hF
        refine lv_aload_n hx hb dX10_drift_94 rfl (lv_at hl 0 rfl) ?_
        obtain ⟨v95, hv, hF⟩ := ob hF
        refine k_getJ C0 M.1 hv fl_X10_375 dX10_drift_95 ?_
        refine lv_lload hx hb dX10_drift_98 (lv_at hl 5 rfl) ?_
        refine lv_lmul hx hb dX10_drift_100 ?_
        refine lv_lload hx hb dX10_drift_101 (lv_at hl 4 rfl) ?_
        refine lv_aload_n hx hb dX10_drift_103 rfl (lv_at hl 0 rfl) ?_
        obtain ⟨v104, hv, hF⟩ := ob hF
        refine k_getI C0 M.1 hv fl_X10_372 dX10_drift_104 ?_
        refine lv_i2l (v := (v104.toInt64)) hx hb dX10_drift_107 rfl ?_
        refine lv_lmul hx hb dX10_drift_108 ?_
        refine W.lcmp hx hb dX10_drift_109 ?_
        refine lv_if_ge (tgt := 141) hx hb dX10_drift_110 (by decide) (fun hc => ?_) (fun hc => ?_)
        · have hF := oi_t hc hF
          exact wX10_drift_141 ad A C0 M hr hF (lv_sub hl [0, 1, 2, 3, 4, 5, 6, 7] rfl) Kr Kh0 Kh1
        · have hF := oi_f hc hF
          exact wX10_drift_113 ad A C0 M hr hF (lv_sub hl [0, 1, 2, 6, 7] rfl) Kr Kh0 Kh1
set_option maxHeartbeats 4000000 in
set_option maxRecDepth 100000 in
theorem tX10_drift (l : Launch) (D : va_G) (cy : Nat → ClassId) (ad : Nat → Nat) (A : Nat → Prop) {S S' : MS} {a0 : Nat} {a1 : Int32} {a2 : Int32} {r : Int32} (h : fX10_drift S a0 a1 a2 = some (r, S')) : Met l yX10_drift [Cond.code yX10_drift cX10_drift 10 (some .int)] rmX10_drift (PcR D cy ad A S [.ref (ad a0), .int a1, .int a2]) (QcM D cy ad A (m_n S) S' (some (.int r))) 0 0 A := by
  refine met_M (by decide +kernel) cw_X10_drift (Nat.le_of_ble_eq_true rfl) ?_
  intro p e s m args below meth c ls C0 M hr hin hl
  have hl : lv_has ls 10 [(0, .ref (ad a0)), (1, .int a1), (2, .int a2)] := hl
  have key := lim_walk (step := sX10_drift) (fun (q : ((Nat × Int32 × Int32 × Int32 × Int64 × Int64 × Int32 × MS) ⊕ (Nat × Int32 × Int32 × Int32 × Int64 × Int64 × Int32 × Int32 × MS))) (r9 : (Int32 × MS)) => ∀ (r : Int32) (S' : MS), r9 = (r, S') → ((∀ (y0 : Nat) (y1 : Int32) (y2 : Int32) (y3 : Int32) (y4 : Int64) (y5 : Int64) (y6 : Int32) (S2 : MS), q = (.inl (y0, y1, y2, y3, y4, y5, y6, S2)) → ∀ (H1 : Heap) (locs1 : List Loc) (ls1 : Array Slot), ST D cy ad A s.heap (ZN (m_n S) s.heap.size) S2 H1 locs1 → lv_has ls1 10 [(0, .ref (ad y0)), (1, .int y1), (2, .int y2), (3, .int y3), (4, .long y4), (6, .long y5), (8, .int y6)] → W p l e rmX10_drift s m args below meth c H1 locs1 0 0 (MQ below (QcM D cy ad A (m_n S) S' (some (.int r))) args s 0 0 A) (F0 m 58 ls1 [])) ∧ (∀ (y0 : Nat) (y1 : Int32) (y2 : Int32) (y3 : Int32) (y4 : Int64) (y5 : Int64) (y6 : Int32) (y7 : Int32) (S2 : MS), q = (.inr (y0, y1, y2, y3, y4, y5, y6, y7, S2)) → ∀ (H1 : Heap) (locs1 : List Loc) (ls1 : Array Slot), ST D cy ad A s.heap (ZN (m_n S) s.heap.size) S2 H1 locs1 → lv_has ls1 10 [(0, .ref (ad y0)), (1, .int y1), (2, .int y2), (3, .int y3), (4, .long y4), (6, .long y5), (8, .int y6), (9, .int y7)] → W p l e rmX10_drift s m args below meth c H1 locs1 0 0 (MQ below (QcM D cy ad A (m_n S) S' (some (.int r))) args s 0 0 A) (F0 m 68 ls1 [])))) ?_
  · unfold fX10_drift at h
    cases hs0 : bX10_drift_0 S a0 a1 a2 with
    | none => rw [hs0] at h; cases h
    | some out =>
      rw [hs0] at h
      refine wX10_drift_0 ad A C0 M hr hs0 hl (fun r9 hr9 => ?_) ?_ ?_
      · subst hr9; exact Option.some.inj h
      · intro y0 y1 y2 y3 y4 y5 y6 y7 hq; subst hq; exact (key _ _ h _ _ rfl).1 _ _ _ _ _ _ _ _ rfl
      · intro y0 y1 y2 y3 y4 y5 y6 y7 y8 hq; subst hq; exact (key _ _ h _ _ rfl).2 _ _ _ _ _ _ _ _ _ rfl
  · intro q r9 out hst hre hin9
    intro r S' er; subst er
    refine ⟨?_, ?_⟩
    · intro y0 y1 y2 y3 y4 y5 y6 y7 hq H1 locs1 ls1 M hl
      subst hq
      exact wX10_drift_58 ad A C0 M hr hst hl hre (fun k0 k1 k2 k3 k4 k5 k6 k7 hk => (hin9 _ hk _ _ rfl).1 _ _ _ _ _ _ _ _ rfl) (fun k0 k1 k2 k3 k4 k5 k6 k7 k8 hk => (hin9 _ hk _ _ rfl).2 _ _ _ _ _ _ _ _ _ rfl)
    · intro y0 y1 y2 y3 y4 y5 y6 y7 y8 hq H1 locs1 ls1 M hl
      subst hq
      exact wX10_drift_68 ad A C0 M hr hst hl hre (fun k0 k1 k2 k3 k4 k5 k6 k7 hk => (hin9 _ hk _ _ rfl).1 _ _ _ _ _ _ _ _ rfl) (fun k0 k1 k2 k3 k4 k5 k6 k7 k8 hk => (hin9 _ hk _ _ rfl).2 _ _ _ _ _ _ _ _ _ rfl)
set_option maxHeartbeats 4000000 in
set_option maxRecDepth 100000 in
theorem wX10_fault_0 {p : Program} {l : Launch} {e : Env} {s : State} {m : MethodId} {args : Array Value} {below : List Frame} {meth : Method} {c : Code} {D : va_G} {cy : Nat → ClassId} (ad : Nat → Nat) (A : Nat → Prop) {S : MS} {r : Int32} {ls : Array Slot} {x0 : Nat} (C0 : CX p s m args meth c RX10 cX10_fault 1 D cy) (M : MW D cy ad A S s.heap) (hr : meth.sig.returnType = some .int) (hF : bX10_fault_0 S x0 = some r) (hl : lv_has ls 1 [(0, .ref (ad x0))]) : W p l e rmX10_fault s m args below meth c s.heap [] 0 0 (MQ below (QcS (some (.int r))) args s 0 0 (fun _ => False)) (F0 m 0 ls []) := by
  unfold bX10_fault_0 at hF
  obtain ⟨hx, hb, -, hown, -, hts, -⟩ := id C0
  refine lv_aload_n hx hb dX10_fault_0 rfl (lv_at hl 0 rfl) ?_
  obtain ⟨v1, hv, hF⟩ := ob hF
  refine k_getI C0 M hv fl_X10_146 dX10_fault_1 ?_
  obtain rfl := (Option.some.inj hF)
  exact rt_SI C0 hr dX10_fault_4
set_option maxHeartbeats 4000000 in
set_option maxRecDepth 100000 in
theorem tX10_fault (l : Launch) (D : va_G) (cy : Nat → ClassId) (ad : Nat → Nat) (A : Nat → Prop) {S : MS} {a0 : Nat} {r : Int32} (h : fX10_fault S a0 = some r) : Met l yX10_fault [Cond.code yX10_fault cX10_fault 1 (some .int)] rmX10_fault (PcR D cy ad A S [.ref (ad a0)]) (QcS (some (.int r))) 0 0 (fun _ => False) := by
  refine met_R (by decide +kernel) cw_X10_fault (Nat.le_of_ble_eq_true rfl) ?_
  intro p e s m args below meth c ls C0 M hr hl
  have hl : lv_has ls 1 [(0, .ref (ad a0))] := hl
  exact wX10_fault_0 ad A C0 M hr h hl
set_option maxHeartbeats 4000000 in
set_option maxRecDepth 100000 in
theorem wX10_isBelow_15 {p : Program} {l : Launch} {e : Env} {s : State} {m : MethodId} {args : Array Value} {below : List Frame} {meth : Method} {c : Code} {D : va_G} {cy : Nat → ClassId} (ad : Nat → Nat) (A : Nat → Prop) {S : MS} {r : Int32} {ls : Array Slot} {z0 : Int32} (C0 : CX p s m args meth c RX10 cX10_isBelow 3 D cy) (M : MW D cy ad A S s.heap) (hr : meth.sig.returnType = some .boolean) (hF : bX10_isBelow_15 S z0 = some r) (hl : lv_has ls 3 []) : W p l e rmX10_isBelow s m args below meth c s.heap [] 0 0 (MQ below (QcS (some (.int r))) args s 0 0 (fun _ => False)) (F0 m 15 ls [.int z0]) := by
  unfold bX10_isBelow_15 at hF
  obtain ⟨hx, hb, -, hown, -, hts, -⟩ := id C0
  obtain ⟨z15, hz, hF⟩ := ob hF
  have hz2 := (o_if hz).2
  refine vtopi hz2 ?_
  rw [hz2] at hz
  obtain rfl := (Option.some.inj hF)
  exact rt_SZ C0 hr hz dX10_isBelow_15
set_option maxHeartbeats 4000000 in
set_option maxRecDepth 100000 in
theorem wX10_isBelow_0 {p : Program} {l : Launch} {e : Env} {s : State} {m : MethodId} {args : Array Value} {below : List Frame} {meth : Method} {c : Code} {D : va_G} {cy : Nat → ClassId} (ad : Nat → Nat) (A : Nat → Prop) {S : MS} {r : Int32} {ls : Array Slot} {x0 : Nat} {x1 : Int32} {x2 : Int32} (C0 : CX p s m args meth c RX10 cX10_isBelow 3 D cy) (M : MW D cy ad A S s.heap) (hr : meth.sig.returnType = some .boolean) (hF : bX10_isBelow_0 S x0 x1 x2 = some r) (hl : lv_has ls 3 [(0, .ref (ad x0)), (1, .int x1), (2, .int x2)]) : W p l e rmX10_isBelow s m args below meth c s.heap [] 0 0 (MQ below (QcS (some (.int r))) args s 0 0 (fun _ => False)) (F0 m 0 ls []) := by
  unfold bX10_isBelow_0 at hF
  obtain ⟨hx, hb, -, hown, -, hts, -⟩ := id C0
  refine lv_aload_n hx hb dX10_isBelow_0 rfl (lv_at hl 0 rfl) ?_
  obtain ⟨v1, hv, hF⟩ := ob hF
  refine k_getP C0 M hv fl_X10_55 dX10_isBelow_1 ?_
  refine lv_iload_n hx hb dX10_isBelow_4 rfl (lv_at hl 1 rfl) ?_
  obtain ⟨v5, hv, hF⟩ := ob hF
  refine k_ld C0 M hv dX10_isBelow_5 ?_
  refine lv_iload_n hx hb dX10_isBelow_6 rfl (lv_at hl 2 rfl) ?_
  refine lv_icmp_ge (tgt := 14) hx hb dX10_isBelow_7 (by decide) (fun hc => ?_) (fun hc => ?_)
  · have hF := oi_t hc hF
    refine lv_iconst (v := (0 : Int32)) hx hb dX10_isBelow_14 (by decide) ?_
    exact wX10_isBelow_15 ad A C0 M hr hF (lv_sub hl [] rfl)
  · have hF := oi_f hc hF
    refine lv_iconst (v := (1 : Int32)) hx hb dX10_isBelow_10 (by decide) ?_
    refine lv_goto (tgt := 15) hx hb dX10_isBelow_11 (by decide) ?_
    exact wX10_isBelow_15 ad A C0 M hr hF (lv_sub hl [] rfl)
set_option maxHeartbeats 4000000 in
set_option maxRecDepth 100000 in
theorem tX10_isBelow (l : Launch) (D : va_G) (cy : Nat → ClassId) (ad : Nat → Nat) (A : Nat → Prop) {S : MS} {a0 : Nat} {a1 : Int32} {a2 : Int32} {r : Int32} (h : fX10_isBelow S a0 a1 a2 = some r) : Met l yX10_isBelow [Cond.code yX10_isBelow cX10_isBelow 3 (some .boolean)] rmX10_isBelow (PcR D cy ad A S [.ref (ad a0), .int a1, .int a2]) (QcS (some (.int r))) 0 0 (fun _ => False) := by
  refine met_R (by decide +kernel) cw_X10_isBelow (Nat.le_of_ble_eq_true rfl) ?_
  intro p e s m args below meth c ls C0 M hr hl
  have hl : lv_has ls 3 [(0, .ref (ad a0)), (1, .int a1), (2, .int a2)] := hl
  exact wX10_isBelow_0 ad A C0 M hr h hl
set_option maxHeartbeats 4000000 in
set_option maxRecDepth 100000 in
theorem wX10_mayGo_24 {p : Program} {l : Launch} {e : Env} {s : State} {m : MethodId} {args : Array Value} {below : List Frame} {meth : Method} {c : Code} {D : va_G} {cy : Nat → ClassId} (ad : Nat → Nat) (A : Nat → Prop) {S : MS} {r : Int32} {ls : Array Slot} {z0 : Int32} (C0 : CX p s m args meth c RX10 cX10_mayGo 4 D cy) (M : MW D cy ad A S s.heap) (hr : meth.sig.returnType = some .boolean) (hF : bX10_mayGo_24 S z0 = some r) (hl : lv_has ls 4 []) : W p l e rmX10_mayGo s m args below meth c s.heap [] 0 0 (MQ below (QcS (some (.int r))) args s 0 0 (fun _ => False)) (F0 m 24 ls [.int z0]) := by
  unfold bX10_mayGo_24 at hF
  obtain ⟨hx, hb, -, hown, -, hts, -⟩ := id C0
  obtain ⟨z24, hz, hF⟩ := ob hF
  have hz2 := (o_if hz).2
  refine vtopi hz2 ?_
  rw [hz2] at hz
  obtain rfl := (Option.some.inj hF)
  exact rt_SZ C0 hr hz dX10_mayGo_24
set_option maxHeartbeats 4000000 in
set_option maxRecDepth 100000 in
theorem wX10_mayGo_23 {p : Program} {l : Launch} {e : Env} {s : State} {m : MethodId} {args : Array Value} {below : List Frame} {meth : Method} {c : Code} {D : va_G} {cy : Nat → ClassId} (ad : Nat → Nat) (A : Nat → Prop) {S : MS} {r : Int32} {ls : Array Slot} (C0 : CX p s m args meth c RX10 cX10_mayGo 4 D cy) (M : MW D cy ad A S s.heap) (hr : meth.sig.returnType = some .boolean) (hF : bX10_mayGo_23 S = some r) (hl : lv_has ls 4 []) : W p l e rmX10_mayGo s m args below meth c s.heap [] 0 0 (MQ below (QcS (some (.int r))) args s 0 0 (fun _ => False)) (F0 m 23 ls []) := by
  unfold bX10_mayGo_23 at hF
  obtain ⟨hx, hb, -, hown, -, hts, -⟩ := id C0
  refine lv_iconst (v := (0 : Int32)) hx hb dX10_mayGo_23 (by decide) ?_
  exact wX10_mayGo_24 ad A C0 M hr hF (lv_sub hl [] rfl)
set_option maxHeartbeats 4000000 in
set_option maxRecDepth 100000 in
theorem wX10_mayGo_0 {p : Program} {l : Launch} {e : Env} {s : State} {m : MethodId} {args : Array Value} {below : List Frame} {meth : Method} {c : Code} {D : va_G} {cy : Nat → ClassId} (ad : Nat → Nat) (A : Nat → Prop) {S : MS} {r : Int32} {ls : Array Slot} {x0 : Nat} {x1 : Int32} {x2 : Int32} {x3 : Int32} (C0 : CX p s m args meth c RX10 cX10_mayGo 4 D cy) (M : MW D cy ad A S s.heap) (hr : meth.sig.returnType = some .boolean) (hF : bX10_mayGo_0 S x0 x1 x2 x3 = some r) (hl : lv_has ls 4 [(0, .ref (ad x0)), (1, .int x1), (2, .int x2), (3, .int x3)]) : W p l e rmX10_mayGo s m args below meth c s.heap [] 0 0 (MQ below (QcS (some (.int r))) args s 0 0 (fun _ => False)) (F0 m 0 ls []) := by
  unfold bX10_mayGo_0 at hF
  obtain ⟨hx, hb, -, hown, -, hts, -⟩ := id C0
  refine lv_aload_n hx hb dX10_mayGo_0 rfl (lv_at hl 0 rfl) ?_
  obtain ⟨v1, hv, hF⟩ := ob hF
  refine k_getP C0 M hv fl_X10_64 dX10_mayGo_1 ?_
  refine lv_iload_n hx hb dX10_mayGo_4 rfl (lv_at hl 1 rfl) ?_
  obtain ⟨v5, hv, hF⟩ := ob hF
  refine k_ldZ C0 M hv dX10_mayGo_5 ?_
  refine lv_if_ne (tgt := 23) hx hb dX10_mayGo_6 (by decide) (fun hc => ?_) (fun hc => ?_)
  · have hF := oi_f hc hF
    exact wX10_mayGo_23 ad A C0 M hr hF (lv_sub hl [] rfl)
  · have hF := oi_t hc hF
    refine lv_aload_n hx hb dX10_mayGo_9 rfl (lv_at hl 0 rfl) ?_
    refine lv_iload_n hx hb dX10_mayGo_10 rfl (lv_at hl 1 rfl) ?_
    refine lv_iload_n hx hb dX10_mayGo_11 rfl (lv_at hl 3 rfl) ?_
    obtain ⟨_, hrec, hF⟩ := ob hF
    obtain ⟨v12, hcl, hF⟩ := ob hF
    refine go_SI (r_V (rest := []) (As := [.int x1, .int x3]) C0 cb_X10_293 M hrec (tX10_isBelow l D cy ad A hcl) (pre_R C0 M) hl dX10_mayGo_12 rfl (Nat.le_of_ble_eq_true rfl) ⟨rfl, rfl⟩ ⟨Nat.le_of_ble_eq_true rfl, Nat.le_of_ble_eq_true rfl⟩ ⟨Nat.le_of_ble_eq_true rfl, Nat.le_of_ble_eq_true rfl⟩ rfl) ?_
    refine lv_iload_n hx hb dX10_mayGo_15 rfl (lv_at hl 2 rfl) ?_
    refine lv_icmp_ne (tgt := 23) hx hb dX10_mayGo_16 (by decide) (fun hc => ?_) (fun hc => ?_)
    · have hF := oi_f hc hF
      exact wX10_mayGo_23 ad A C0 M hr hF (lv_sub hl [] rfl)
    · have hF := oi_t hc hF
      refine lv_iconst (v := (1 : Int32)) hx hb dX10_mayGo_19 (by decide) ?_
      refine lv_goto (tgt := 24) hx hb dX10_mayGo_20 (by decide) ?_
      exact wX10_mayGo_24 ad A C0 M hr hF (lv_sub hl [] rfl)
set_option maxHeartbeats 4000000 in
set_option maxRecDepth 100000 in
theorem tX10_mayGo (l : Launch) (D : va_G) (cy : Nat → ClassId) (ad : Nat → Nat) (A : Nat → Prop) {S : MS} {a0 : Nat} {a1 : Int32} {a2 : Int32} {a3 : Int32} {r : Int32} (h : fX10_mayGo S a0 a1 a2 a3 = some r) : Met l yX10_mayGo [Cond.code yX10_mayGo cX10_mayGo 4 (some .boolean)] rmX10_mayGo (PcR D cy ad A S [.ref (ad a0), .int a1, .int a2, .int a3]) (QcS (some (.int r))) 0 0 (fun _ => False) := by
  refine met_R (by decide +kernel) cw_X10_mayGo (Nat.le_of_ble_eq_true rfl) ?_
  intro p e s m args below meth c ls C0 M hr hl
  have hl : lv_has ls 4 [(0, .ref (ad a0)), (1, .int a1), (2, .int a2), (3, .int a3)] := hl
  exact wX10_mayGo_0 ad A C0 M hr h hl
set_option maxHeartbeats 4000000 in
set_option maxRecDepth 100000 in
theorem wX10_fill_0 {p : Program} {l : Launch} {e : Env} {s : State} {m : MethodId} {args : Array Value} {below : List Frame} {meth : Method} {c : Code} {D : va_G} {cy : Nat → ClassId} (ad : Nat → Nat) (A : Nat → Prop) {S : MS} {S' : MS} {H : Heap} {locs : List Loc} {n0 : Nat} {out : (((Nat × Int32 × Int32 × Int32 × MS) ⊕ (Nat × Int32 × Int32 × Int32 × Int32 × Int32 × MS)) ⊕ MS)} {ls : Array Slot} {x0 : Nat} {x1 : Int32} {x2 : Int32} {x3 : Int32} (C0 : CX p s m args meth c RX10 cX10_fill 9 D cy) (M : ST D cy ad A s.heap (ZN n0 s.heap.size) S H locs) (hr : meth.sig.returnType = none) (hF : bX10_fill_0 S x0 x1 x2 x3 = some out) (hl : lv_has ls 9 [(0, .ref (ad x0)), (1, .int x1), (2, .int x2), (3, .int x3)]) (Kr : ∀ r9, out = .inr r9 → r9 = S') (Kh0 : ∀ (y0 : Nat) (y1 : Int32) (y2 : Int32) (y3 : Int32) (S2 : MS), out = .inl (.inl (y0, y1, y2, y3, S2)) → ∀ (H1 : Heap) (locs1 : List Loc) (ls1 : Array Slot), ST D cy ad A s.heap (ZN n0 s.heap.size) S2 H1 locs1 → lv_has ls1 9 [(0, .ref (ad y0)), (2, .int y1), (3, .int y2), (4, .int y3)] → W p l e rmX10_fill s m args below meth c H1 locs1 0 0 (MQ below (QcM D cy ad A n0 S' (none)) args s 0 0 A) (F0 m 17 ls1 [])) (Kh1 : ∀ (y0 : Nat) (y1 : Int32) (y2 : Int32) (y3 : Int32) (y4 : Int32) (y5 : Int32) (S2 : MS), out = .inl (.inr (y0, y1, y2, y3, y4, y5, S2)) → ∀ (H1 : Heap) (locs1 : List Loc) (ls1 : Array Slot), ST D cy ad A s.heap (ZN n0 s.heap.size) S2 H1 locs1 → lv_has ls1 9 [(0, .ref (ad y0)), (2, .int y1), (3, .int y2), (4, .int y3), (5, .int y4), (6, .int y5)] → W p l e rmX10_fill s m args below meth c H1 locs1 0 0 (MQ below (QcM D cy ad A n0 S' (none)) args s 0 0 A) (F0 m 37 ls1 [])) : W p l e rmX10_fill s m args below meth c H locs 0 0 (MQ below (QcM D cy ad A n0 S' (none)) args s 0 0 A) (F0 m 0 ls []) := by
  unfold bX10_fill_0 at hF
  obtain ⟨hx, hb, -, hown, -, hts, -⟩ := id C0
  refine lv_iconst (v := (1 : Int32)) hx hb dX10_fill_0 (by decide) ?_
  refine lv_istore (lv' := [(4, .int (1 : Int32)), (0, .ref (ad x0)), (1, .int x1), (2, .int x2), (3, .int x3)]) hx hb dX10_fill_1 hl (by decide) rfl (fun ls hl => ?_)
  refine lv_aload_n hx hb dX10_fill_3 rfl (lv_at hl 1 rfl) ?_
  obtain ⟨v4, hv, hF⟩ := ob hF
  refine k_getP C0 M.1 hv fl_X10_61 dX10_fill_4 ?_
  refine lv_iconst (v := (0 : Int32)) hx hb dX10_fill_7 (by decide) ?_
  refine lv_iload_n hx hb dX10_fill_8 rfl (lv_at hl 2 rfl) ?_
  obtain ⟨S9, hv, hF⟩ := ob hF
  refine k_st C0 M hv dX10_fill_9 (fun H locs M => ?_)
  refine lv_aload_n hx hb dX10_fill_10 rfl (lv_at hl 1 rfl) ?_
  obtain ⟨v11, hv, hF⟩ := ob hF
  refine k_getP C0 M.1 hv fl_X10_64 dX10_fill_11 ?_
  refine lv_iload_n hx hb dX10_fill_14 rfl (lv_at hl 2 rfl) ?_
  refine lv_iconst (v := (1 : Int32)) hx hb dX10_fill_15 (by decide) ?_
  have hz : o_zb (1 : Int32) = some (1 : Int32) := rfl
  obtain ⟨S16, hv, hF⟩ := ob hF
  refine k_stZ C0 M hz hv dX10_fill_16 (fun H locs M => ?_)
  exact Kh0 _ _ _ _ _ (Option.some.inj hF).symm _ _ _ M (lv_sub hl [1, 3, 4, 0] rfl)
set_option maxHeartbeats 4000000 in
set_option maxRecDepth 100000 in
theorem wX10_fill_17 {p : Program} {l : Launch} {e : Env} {s : State} {m : MethodId} {args : Array Value} {below : List Frame} {meth : Method} {c : Code} {D : va_G} {cy : Nat → ClassId} (ad : Nat → Nat) (A : Nat → Prop) {S : MS} {S' : MS} {H : Heap} {locs : List Loc} {n0 : Nat} {out : (((Nat × Int32 × Int32 × Int32 × MS) ⊕ (Nat × Int32 × Int32 × Int32 × Int32 × Int32 × MS)) ⊕ MS)} {ls : Array Slot} {x0 : Nat} {x2 : Int32} {x3 : Int32} {x4 : Int32} (C0 : CX p s m args meth c RX10 cX10_fill 9 D cy) (M : ST D cy ad A s.heap (ZN n0 s.heap.size) S H locs) (hr : meth.sig.returnType = none) (hF : bX10_fill_17 S x0 x2 x3 x4 = some out) (hl : lv_has ls 9 [(0, .ref (ad x0)), (2, .int x2), (3, .int x3), (4, .int x4)]) (Kr : ∀ r9, out = .inr r9 → r9 = S') (Kh0 : ∀ (y0 : Nat) (y1 : Int32) (y2 : Int32) (y3 : Int32) (S2 : MS), out = .inl (.inl (y0, y1, y2, y3, S2)) → ∀ (H1 : Heap) (locs1 : List Loc) (ls1 : Array Slot), ST D cy ad A s.heap (ZN n0 s.heap.size) S2 H1 locs1 → lv_has ls1 9 [(0, .ref (ad y0)), (2, .int y1), (3, .int y2), (4, .int y3)] → W p l e rmX10_fill s m args below meth c H1 locs1 0 0 (MQ below (QcM D cy ad A n0 S' (none)) args s 0 0 A) (F0 m 17 ls1 [])) (Kh1 : ∀ (y0 : Nat) (y1 : Int32) (y2 : Int32) (y3 : Int32) (y4 : Int32) (y5 : Int32) (S2 : MS), out = .inl (.inr (y0, y1, y2, y3, y4, y5, S2)) → ∀ (H1 : Heap) (locs1 : List Loc) (ls1 : Array Slot), ST D cy ad A s.heap (ZN n0 s.heap.size) S2 H1 locs1 → lv_has ls1 9 [(0, .ref (ad y0)), (2, .int y1), (3, .int y2), (4, .int y3), (5, .int y4), (6, .int y5)] → W p l e rmX10_fill s m args below meth c H1 locs1 0 0 (MQ below (QcM D cy ad A n0 S' (none)) args s 0 0 A) (F0 m 37 ls1 [])) : W p l e rmX10_fill s m args below meth c H locs 0 0 (MQ below (QcM D cy ad A n0 S' (none)) args s 0 0 A) (F0 m 17 ls []) := by
  unfold bX10_fill_17 at hF
  obtain ⟨hx, hb, -, hown, -, hts, -⟩ := id C0
  refine lv_iload hx hb dX10_fill_17 (lv_at hl 3 rfl) ?_
  refine lv_if_le (tgt := 206) hx hb dX10_fill_19 (by decide) (fun hc => ?_) (fun hc => ?_)
  · have hF := oi_t hc hF
    obtain rfl := (Kr _ (Option.some.inj hF).symm)
    exact rt_MV C0 M hr dX10_fill_206
  · have hF := oi_f hc hF
    obtain ⟨v22, hv, hF⟩ := ob hF
    refine lv_iinc (v := v22) (lv' := [(4, .int v22), (0, .ref (ad x0)), (2, .int x2), (3, .int x3)]) hx hb dX10_fill_22 hl (k := 3) rfl (by rw [← vtI hv]; rfl) (by decide) rfl (fun ls hl => ?_)
    refine lv_aload_n hx hb dX10_fill_25 rfl (lv_at hl 1 rfl) ?_
    obtain ⟨v26, hv, hF⟩ := ob hF
    refine k_getP C0 M.1 hv fl_X10_61 dX10_fill_26 ?_
    refine lv_iload hx hb dX10_fill_29 (lv_at hl 0 rfl) ?_
    obtain ⟨v31, hv, hF⟩ := ob hF
    refine k_ld C0 M.1 hv dX10_fill_31 ?_
    refine lv_istore (lv' := [(5, .int v31), (4, .int v22), (0, .ref (ad x0)), (2, .int x2), (3, .int x3)]) hx hb dX10_fill_32 hl (by decide) rfl (fun ls hl => ?_)
    refine lv_iconst (v := (0 : Int32)) hx hb dX10_fill_34 (by decide) ?_
    refine lv_istore (lv' := [(6, .int (0 : Int32)), (5, .int v31), (4, .int v22), (0, .ref (ad x0)), (2, .int x2), (3, .int x3)]) hx hb dX10_fill_35 hl (by decide) rfl (fun ls hl => ?_)
    exact Kh1 _ _ _ _ _ _ _ (Option.some.inj hF).symm _ _ _ M (lv_sub hl [3, 4, 5, 2, 1, 0] rfl)
set_option maxHeartbeats 4000000 in
set_option maxRecDepth 100000 in
theorem wX10_fill_197 {p : Program} {l : Launch} {e : Env} {s : State} {m : MethodId} {args : Array Value} {below : List Frame} {meth : Method} {c : Code} {D : va_G} {cy : Nat → ClassId} (ad : Nat → Nat) (A : Nat → Prop) {S : MS} {S' : MS} {H : Heap} {locs : List Loc} {n0 : Nat} {out : (((Nat × Int32 × Int32 × Int32 × MS) ⊕ (Nat × Int32 × Int32 × Int32 × Int32 × Int32 × MS)) ⊕ MS)} {ls : Array Slot} {x0 : Nat} {x2 : Int32} {x3 : Int32} {x4 : Int32} {x5 : Int32} {x6 : Int32} (C0 : CX p s m args meth c RX10 cX10_fill 9 D cy) (M : ST D cy ad A s.heap (ZN n0 s.heap.size) S H locs) (hr : meth.sig.returnType = none) (hF : bX10_fill_197 S x0 x2 x3 x4 x5 x6 = some out) (hl : lv_has ls 9 [(0, .ref (ad x0)), (2, .int x2), (3, .int x3), (4, .int x4), (5, .int x5), (6, .int x6)]) (Kr : ∀ r9, out = .inr r9 → r9 = S') (Kh0 : ∀ (y0 : Nat) (y1 : Int32) (y2 : Int32) (y3 : Int32) (S2 : MS), out = .inl (.inl (y0, y1, y2, y3, S2)) → ∀ (H1 : Heap) (locs1 : List Loc) (ls1 : Array Slot), ST D cy ad A s.heap (ZN n0 s.heap.size) S2 H1 locs1 → lv_has ls1 9 [(0, .ref (ad y0)), (2, .int y1), (3, .int y2), (4, .int y3)] → W p l e rmX10_fill s m args below meth c H1 locs1 0 0 (MQ below (QcM D cy ad A n0 S' (none)) args s 0 0 A) (F0 m 17 ls1 [])) (Kh1 : ∀ (y0 : Nat) (y1 : Int32) (y2 : Int32) (y3 : Int32) (y4 : Int32) (y5 : Int32) (S2 : MS), out = .inl (.inr (y0, y1, y2, y3, y4, y5, S2)) → ∀ (H1 : Heap) (locs1 : List Loc) (ls1 : Array Slot), ST D cy ad A s.heap (ZN n0 s.heap.size) S2 H1 locs1 → lv_has ls1 9 [(0, .ref (ad y0)), (2, .int y1), (3, .int y2), (4, .int y3), (5, .int y4), (6, .int y5)] → W p l e rmX10_fill s m args below meth c H1 locs1 0 0 (MQ below (QcM D cy ad A n0 S' (none)) args s 0 0 A) (F0 m 37 ls1 [])) : W p l e rmX10_fill s m args below meth c H locs 0 0 (MQ below (QcM D cy ad A n0 S' (none)) args s 0 0 A) (F0 m 197 ls []) := by
  unfold bX10_fill_197 at hF
  obtain ⟨hx, hb, -, hown, -, hts, -⟩ := id C0
  obtain ⟨v197, hv, hF⟩ := ob hF
  refine lv_iinc (v := v197) (lv' := [(6, .int v197), (0, .ref (ad x0)), (2, .int x2), (3, .int x3), (4, .int x4), (5, .int x5)]) hx hb dX10_fill_197 hl (k := 5) rfl (by rw [← vtI hv]; rfl) (by decide) rfl (fun ls hl => ?_)
  refine lv_goto (tgt := 37) hx hb dX10_fill_200 (by decide) ?_
  exact Kh1 _ _ _ _ _ _ _ (Option.some.inj hF).symm _ _ _ M (lv_sub hl [1, 2, 3, 4, 5, 0] rfl)
set_option maxHeartbeats 4000000 in
set_option maxRecDepth 100000 in
theorem wX10_fill_158 {p : Program} {l : Launch} {e : Env} {s : State} {m : MethodId} {args : Array Value} {below : List Frame} {meth : Method} {c : Code} {D : va_G} {cy : Nat → ClassId} (ad : Nat → Nat) (A : Nat → Prop) {S : MS} {S' : MS} {H : Heap} {locs : List Loc} {n0 : Nat} {out : (((Nat × Int32 × Int32 × Int32 × MS) ⊕ (Nat × Int32 × Int32 × Int32 × Int32 × Int32 × MS)) ⊕ MS)} {ls : Array Slot} {x0 : Nat} {x2 : Int32} {x3 : Int32} {x4 : Int32} {x5 : Int32} {x6 : Int32} {x7 : Int32} {z0 : Int32} {z1 : Int32} (C0 : CX p s m args meth c RX10 cX10_fill 9 D cy) (M : ST D cy ad A s.heap (ZN n0 s.heap.size) S H locs) (hr : meth.sig.returnType = none) (hF : bX10_fill_158 S x0 x2 x3 x4 x5 x6 x7 z0 z1 = some out) (hl : lv_has ls 9 [(0, .ref (ad x0)), (2, .int x2), (3, .int x3), (4, .int x4), (5, .int x5), (6, .int x6), (7, .int x7)]) (Kr : ∀ r9, out = .inr r9 → r9 = S') (Kh0 : ∀ (y0 : Nat) (y1 : Int32) (y2 : Int32) (y3 : Int32) (S2 : MS), out = .inl (.inl (y0, y1, y2, y3, S2)) → ∀ (H1 : Heap) (locs1 : List Loc) (ls1 : Array Slot), ST D cy ad A s.heap (ZN n0 s.heap.size) S2 H1 locs1 → lv_has ls1 9 [(0, .ref (ad y0)), (2, .int y1), (3, .int y2), (4, .int y3)] → W p l e rmX10_fill s m args below meth c H1 locs1 0 0 (MQ below (QcM D cy ad A n0 S' (none)) args s 0 0 A) (F0 m 17 ls1 [])) (Kh1 : ∀ (y0 : Nat) (y1 : Int32) (y2 : Int32) (y3 : Int32) (y4 : Int32) (y5 : Int32) (S2 : MS), out = .inl (.inr (y0, y1, y2, y3, y4, y5, S2)) → ∀ (H1 : Heap) (locs1 : List Loc) (ls1 : Array Slot), ST D cy ad A s.heap (ZN n0 s.heap.size) S2 H1 locs1 → lv_has ls1 9 [(0, .ref (ad y0)), (2, .int y1), (3, .int y2), (4, .int y3), (5, .int y4), (6, .int y5)] → W p l e rmX10_fill s m args below meth c H1 locs1 0 0 (MQ below (QcM D cy ad A n0 S' (none)) args s 0 0 A) (F0 m 37 ls1 [])) : W p l e rmX10_fill s m args below meth c H locs 0 0 (MQ below (QcM D cy ad A n0 S' (none)) args s 0 0 A) (F0 m 158 ls [.int z1, .int z0]) := by
  unfold bX10_fill_158 at hF
  obtain ⟨hx, hb, -, hown, -, hts, -⟩ := id C0
  refine lv_iadd hx hb dX10_fill_158 ?_
  obtain ⟨v159, hv, hF⟩ := ob hF
  have hv := vtI hv
  refine vtopi hv ?_
  refine lv_istore (lv' := [(8, .int v159), (0, .ref (ad x0)), (2, .int x2), (3, .int x3), (4, .int x4), (5, .int x5), (6, .int x6), (7, .int x7)]) hx hb dX10_fill_159 hl (by decide) rfl (fun ls hl => ?_)
  refine lv_iload hx hb dX10_fill_161 (lv_at hl 7 rfl) ?_
  refine lv_if_eq (tgt := 197) hx hb dX10_fill_163 (by decide) (fun hc => ?_) (fun hc => ?_)
  · have hF := oi_t hc hF
    exact wX10_fill_197 ad A C0 M hr hF (lv_sub hl [1, 2, 3, 4, 5, 6] rfl) Kr Kh0 Kh1
  · have hF := oi_f hc hF
    refine lv_aload_n hx hb dX10_fill_166 rfl (lv_at hl 1 rfl) ?_
    refine lv_iload hx hb dX10_fill_167 (lv_at hl 0 rfl) ?_
    refine lv_iload_n hx hb dX10_fill_169 rfl (lv_at hl 2 rfl) ?_
    refine lv_iload_n hx hb dX10_fill_170 rfl (lv_at hl 3 rfl) ?_
    obtain ⟨_, hrec, hF⟩ := ob hF
    obtain ⟨v171, hcl, hF⟩ := ob hF
    refine go_SI (r_V (rest := []) (As := [.int v159, .int x2, .int x3]) C0 cb_X10_296 M.1 hrec (tX10_mayGo l D cy ad A hcl) (pre_R C0 M.1) hl dX10_fill_171 rfl (Nat.le_of_ble_eq_true rfl) ⟨rfl, rfl⟩ ⟨Nat.le_of_ble_eq_true rfl, Nat.le_of_ble_eq_true rfl⟩ ⟨Nat.le_of_ble_eq_true rfl, Nat.le_of_ble_eq_true rfl⟩ rfl) ?_
    refine lv_if_eq (tgt := 197) hx hb dX10_fill_174 (by decide) (fun hc => ?_) (fun hc => ?_)
    · have hF := oi_t hc hF
      exact wX10_fill_197 ad A C0 M hr hF (lv_sub hl [1, 2, 3, 4, 5, 6] rfl) Kr Kh0 Kh1
    · have hF := oi_f hc hF
      refine lv_aload_n hx hb dX10_fill_177 rfl (lv_at hl 1 rfl) ?_
      obtain ⟨v178, hv, hF⟩ := ob hF
      refine k_getP C0 M.1 hv fl_X10_64 dX10_fill_178 ?_
      refine lv_iload hx hb dX10_fill_181 (lv_at hl 0 rfl) ?_
      refine lv_iconst (v := (1 : Int32)) hx hb dX10_fill_183 (by decide) ?_
      have hz : o_zb (1 : Int32) = some (1 : Int32) := rfl
      obtain ⟨S184, hv, hF⟩ := ob hF
      refine k_stZ C0 M hz hv dX10_fill_184 (fun H locs M => ?_)
      refine lv_aload_n hx hb dX10_fill_185 rfl (lv_at hl 1 rfl) ?_
      obtain ⟨v186, hv, hF⟩ := ob hF
      refine k_getP C0 M.1 hv fl_X10_61 dX10_fill_186 ?_
      refine lv_iload hx hb dX10_fill_189 (lv_at hl 4 rfl) ?_
      refine lv_iload hx hb dX10_fill_191 (lv_at hl 0 rfl) ?_
      obtain ⟨S193, hv, hF⟩ := ob hF
      refine k_st C0 M hv dX10_fill_193 (fun H locs M => ?_)
      obtain ⟨v194, hv, hF⟩ := ob hF
      refine lv_iinc (v := v194) (lv' := [(4, .int v194), (8, .int v159), (0, .ref (ad x0)), (2, .int x2), (3, .int x3), (5, .int x5), (6, .int x6), (7, .int x7)]) hx hb dX10_fill_194 hl (k := 4) rfl (by rw [← vtI hv]; rfl) (by decide) rfl (fun ls hl => ?_)
      exact wX10_fill_197 ad A C0 M hr hF (lv_sub hl [2, 3, 4, 0, 5, 6] rfl) Kr Kh0 Kh1
set_option maxHeartbeats 4000000 in
set_option maxRecDepth 100000 in
theorem wX10_fill_122 {p : Program} {l : Launch} {e : Env} {s : State} {m : MethodId} {args : Array Value} {below : List Frame} {meth : Method} {c : Code} {D : va_G} {cy : Nat → ClassId} (ad : Nat → Nat) (A : Nat → Prop) {S : MS} {S' : MS} {H : Heap} {locs : List Loc} {n0 : Nat} {out : (((Nat × Int32 × Int32 × Int32 × MS) ⊕ (Nat × Int32 × Int32 × Int32 × Int32 × Int32 × MS)) ⊕ MS)} {ls : Array Slot} {x0 : Nat} {x2 : Int32} {x3 : Int32} {x4 : Int32} {x5 : Int32} {x6 : Int32} {z0 : Int32} (C0 : CX p s m args meth c RX10 cX10_fill 9 D cy) (M : ST D cy ad A s.heap (ZN n0 s.heap.size) S H locs) (hr : meth.sig.returnType = none) (hF : bX10_fill_122 S x0 x2 x3 x4 x5 x6 z0 = some out) (hl : lv_has ls 9 [(0, .ref (ad x0)), (2, .int x2), (3, .int x3), (4, .int x4), (5, .int x5), (6, .int x6)]) (Kr : ∀ r9, out = .inr r9 → r9 = S') (Kh0 : ∀ (y0 : Nat) (y1 : Int32) (y2 : Int32) (y3 : Int32) (S2 : MS), out = .inl (.inl (y0, y1, y2, y3, S2)) → ∀ (H1 : Heap) (locs1 : List Loc) (ls1 : Array Slot), ST D cy ad A s.heap (ZN n0 s.heap.size) S2 H1 locs1 → lv_has ls1 9 [(0, .ref (ad y0)), (2, .int y1), (3, .int y2), (4, .int y3)] → W p l e rmX10_fill s m args below meth c H1 locs1 0 0 (MQ below (QcM D cy ad A n0 S' (none)) args s 0 0 A) (F0 m 17 ls1 [])) (Kh1 : ∀ (y0 : Nat) (y1 : Int32) (y2 : Int32) (y3 : Int32) (y4 : Int32) (y5 : Int32) (S2 : MS), out = .inl (.inr (y0, y1, y2, y3, y4, y5, S2)) → ∀ (H1 : Heap) (locs1 : List Loc) (ls1 : Array Slot), ST D cy ad A s.heap (ZN n0 s.heap.size) S2 H1 locs1 → lv_has ls1 9 [(0, .ref (ad y0)), (2, .int y1), (3, .int y2), (4, .int y3), (5, .int y4), (6, .int y5)] → W p l e rmX10_fill s m args below meth c H1 locs1 0 0 (MQ below (QcM D cy ad A n0 S' (none)) args s 0 0 A) (F0 m 37 ls1 [])) : W p l e rmX10_fill s m args below meth c H locs 0 0 (MQ below (QcM D cy ad A n0 S' (none)) args s 0 0 A) (F0 m 122 ls [.int z0]) := by
  unfold bX10_fill_122 at hF
  obtain ⟨hx, hb, -, hown, -, hts, -⟩ := id C0
  refine lv_istore (lv' := [(7, .int z0), (0, .ref (ad x0)), (2, .int x2), (3, .int x3), (4, .int x4), (5, .int x5), (6, .int x6)]) hx hb dX10_fill_122 hl (by decide) rfl (fun ls hl => ?_)
  refine lv_iload hx hb dX10_fill_124 (lv_at hl 5 rfl) ?_
  refine lv_iload hx hb dX10_fill_126 (lv_at hl 6 rfl) ?_
  refine lv_if_ne (tgt := 135) hx hb dX10_fill_128 (by decide) (fun hc => ?_) (fun hc => ?_)
  · have hF := oi_f hc hF
    refine lv_iload hx hb dX10_fill_135 (lv_at hl 6 rfl) ?_
    refine lv_iconst (v := (1 : Int32)) hx hb dX10_fill_137 (by decide) ?_
    refine lv_icmp_ne (tgt := 145) hx hb dX10_fill_138 (by decide) (fun hc => ?_) (fun hc => ?_)
    · have hF := oi_f hc hF
      refine lv_iload hx hb dX10_fill_145 (lv_at hl 6 rfl) ?_
      refine lv_iconst (v := (2 : Int32)) hx hb dX10_fill_147 (by decide) ?_
      refine lv_icmp_ne (tgt := 156) hx hb dX10_fill_148 (by decide) (fun hc => ?_) (fun hc => ?_)
      · have hF := oi_f hc hF
        refine lv_bipush (v := (-12 : Int32)) hx hb dX10_fill_156 (by decide) ?_
        exact wX10_fill_158 ad A C0 M hr hF (lv_sub hl [1, 2, 3, 4, 5, 6, 0] rfl) Kr Kh0 Kh1
      · have hF := oi_t hc hF
        refine lv_bipush (v := (12 : Int32)) hx hb dX10_fill_151 (by decide) ?_
        refine lv_goto (tgt := 158) hx hb dX10_fill_153 (by decide) ?_
        exact wX10_fill_158 ad A C0 M hr hF (lv_sub hl [1, 2, 3, 4, 5, 6, 0] rfl) Kr Kh0 Kh1
    · have hF := oi_t hc hF
      refine lv_iconst (v := (-1 : Int32)) hx hb dX10_fill_141 (by decide) ?_
      refine lv_goto (tgt := 158) hx hb dX10_fill_142 (by decide) ?_
      exact wX10_fill_158 ad A C0 M hr hF (lv_sub hl [1, 2, 3, 4, 5, 6, 0] rfl) Kr Kh0 Kh1
  · have hF := oi_t hc hF
    refine lv_iconst (v := (1 : Int32)) hx hb dX10_fill_131 (by decide) ?_
    refine lv_goto (tgt := 158) hx hb dX10_fill_132 (by decide) ?_
    exact wX10_fill_158 ad A C0 M hr hF (lv_sub hl [1, 2, 3, 4, 5, 6, 0] rfl) Kr Kh0 Kh1
set_option maxHeartbeats 4000000 in
set_option maxRecDepth 100000 in
theorem wX10_fill_37 {p : Program} {l : Launch} {e : Env} {s : State} {m : MethodId} {args : Array Value} {below : List Frame} {meth : Method} {c : Code} {D : va_G} {cy : Nat → ClassId} (ad : Nat → Nat) (A : Nat → Prop) {S : MS} {S' : MS} {H : Heap} {locs : List Loc} {n0 : Nat} {out : (((Nat × Int32 × Int32 × Int32 × MS) ⊕ (Nat × Int32 × Int32 × Int32 × Int32 × Int32 × MS)) ⊕ MS)} {ls : Array Slot} {x0 : Nat} {x2 : Int32} {x3 : Int32} {x4 : Int32} {x5 : Int32} {x6 : Int32} (C0 : CX p s m args meth c RX10 cX10_fill 9 D cy) (M : ST D cy ad A s.heap (ZN n0 s.heap.size) S H locs) (hr : meth.sig.returnType = none) (hF : bX10_fill_37 S x0 x2 x3 x4 x5 x6 = some out) (hl : lv_has ls 9 [(0, .ref (ad x0)), (2, .int x2), (3, .int x3), (4, .int x4), (5, .int x5), (6, .int x6)]) (Kr : ∀ r9, out = .inr r9 → r9 = S') (Kh0 : ∀ (y0 : Nat) (y1 : Int32) (y2 : Int32) (y3 : Int32) (S2 : MS), out = .inl (.inl (y0, y1, y2, y3, S2)) → ∀ (H1 : Heap) (locs1 : List Loc) (ls1 : Array Slot), ST D cy ad A s.heap (ZN n0 s.heap.size) S2 H1 locs1 → lv_has ls1 9 [(0, .ref (ad y0)), (2, .int y1), (3, .int y2), (4, .int y3)] → W p l e rmX10_fill s m args below meth c H1 locs1 0 0 (MQ below (QcM D cy ad A n0 S' (none)) args s 0 0 A) (F0 m 17 ls1 [])) (Kh1 : ∀ (y0 : Nat) (y1 : Int32) (y2 : Int32) (y3 : Int32) (y4 : Int32) (y5 : Int32) (S2 : MS), out = .inl (.inr (y0, y1, y2, y3, y4, y5, S2)) → ∀ (H1 : Heap) (locs1 : List Loc) (ls1 : Array Slot), ST D cy ad A s.heap (ZN n0 s.heap.size) S2 H1 locs1 → lv_has ls1 9 [(0, .ref (ad y0)), (2, .int y1), (3, .int y2), (4, .int y3), (5, .int y4), (6, .int y5)] → W p l e rmX10_fill s m args below meth c H1 locs1 0 0 (MQ below (QcM D cy ad A n0 S' (none)) args s 0 0 A) (F0 m 37 ls1 [])) : W p l e rmX10_fill s m args below meth c H locs 0 0 (MQ below (QcM D cy ad A n0 S' (none)) args s 0 0 A) (F0 m 37 ls []) := by
  unfold bX10_fill_37 at hF
  obtain ⟨hx, hb, -, hown, -, hts, -⟩ := id C0
  refine lv_iload hx hb dX10_fill_37 (lv_at hl 5 rfl) ?_
  refine lv_iconst (v := (4 : Int32)) hx hb dX10_fill_39 (by decide) ?_
  refine lv_icmp_ge (tgt := 203) hx hb dX10_fill_40 (by decide) (fun hc => ?_) (fun hc => ?_)
  · have hF := oi_t hc hF
    refine lv_goto (tgt := 17) hx hb dX10_fill_203 (by decide) ?_
    exact Kh0 _ _ _ _ _ (Option.some.inj hF).symm _ _ _ M (lv_sub hl [0, 1, 2, 3] rfl)
  · have hF := oi_f hc hF
    refine lv_iload hx hb dX10_fill_43 (lv_at hl 5 rfl) ?_
    refine lv_if_ne (tgt := 66) hx hb dX10_fill_45 (by decide) (fun hc => ?_) (fun hc => ?_)
    · have hF := oi_f hc hF
      refine lv_iload hx hb dX10_fill_66 (lv_at hl 5 rfl) ?_
      refine lv_iconst (v := (1 : Int32)) hx hb dX10_fill_68 (by decide) ?_
      refine lv_icmp_ne (tgt := 88) hx hb dX10_fill_69 (by decide) (fun hc => ?_) (fun hc => ?_)
      · have hF := oi_f hc hF
        refine lv_iload hx hb dX10_fill_88 (lv_at hl 5 rfl) ?_
        refine lv_iconst (v := (2 : Int32)) hx hb dX10_fill_90 (by decide) ?_
        refine lv_icmp_ne (tgt := 110) hx hb dX10_fill_91 (by decide) (fun hc => ?_) (fun hc => ?_)
        · have hF := oi_f hc hF
          refine lv_iload hx hb dX10_fill_110 (lv_at hl 4 rfl) ?_
          refine lv_bipush (v := (11 : Int32)) hx hb dX10_fill_112 (by decide) ?_
          refine lv_icmp_le (tgt := 121) hx hb dX10_fill_114 (by decide) (fun hc => ?_) (fun hc => ?_)
          · have hF := oi_t hc hF
            refine lv_iconst (v := (0 : Int32)) hx hb dX10_fill_121 (by decide) ?_
            exact wX10_fill_122 ad A C0 M hr hF (lv_sub hl [0, 1, 2, 3, 4, 5] rfl) Kr Kh0 Kh1
          · have hF := oi_f hc hF
            refine lv_iconst (v := (1 : Int32)) hx hb dX10_fill_117 (by decide) ?_
            refine lv_goto (tgt := 122) hx hb dX10_fill_118 (by decide) ?_
            exact wX10_fill_122 ad A C0 M hr hF (lv_sub hl [0, 1, 2, 3, 4, 5] rfl) Kr Kh0 Kh1
        · have hF := oi_t hc hF
          refine lv_iload hx hb dX10_fill_94 (lv_at hl 4 rfl) ?_
          refine lv_sipush (v := (132 : Int32)) hx hb dX10_fill_96 (by decide) ?_
          refine lv_icmp_ge (tgt := 106) hx hb dX10_fill_99 (by decide) (fun hc => ?_) (fun hc => ?_)
          · have hF := oi_t hc hF
            refine lv_iconst (v := (0 : Int32)) hx hb dX10_fill_106 (by decide) ?_
            refine lv_goto (tgt := 122) hx hb dX10_fill_107 (by decide) ?_
            exact wX10_fill_122 ad A C0 M hr hF (lv_sub hl [0, 1, 2, 3, 4, 5] rfl) Kr Kh0 Kh1
          · have hF := oi_f hc hF
            refine lv_iconst (v := (1 : Int32)) hx hb dX10_fill_102 (by decide) ?_
            refine lv_goto (tgt := 122) hx hb dX10_fill_103 (by decide) ?_
            exact wX10_fill_122 ad A C0 M hr hF (lv_sub hl [0, 1, 2, 3, 4, 5] rfl) Kr Kh0 Kh1
      · have hF := oi_t hc hF
        refine lv_iload hx hb dX10_fill_72 (lv_at hl 4 rfl) ?_
        refine lv_bipush (v := (12 : Int32)) hx hb dX10_fill_74 (by decide) ?_
        refine lv_irem hx hb dX10_fill_76 (by decide) ?_
        refine lv_if_le (tgt := 84) hx hb dX10_fill_77 (by decide) (fun hc => ?_) (fun hc => ?_)
        · have hF := oi_t hc hF
          refine lv_iconst (v := (0 : Int32)) hx hb dX10_fill_84 (by decide) ?_
          refine lv_goto (tgt := 122) hx hb dX10_fill_85 (by decide) ?_
          exact wX10_fill_122 ad A C0 M hr hF (lv_sub hl [0, 1, 2, 3, 4, 5] rfl) Kr Kh0 Kh1
        · have hF := oi_f hc hF
          refine lv_iconst (v := (1 : Int32)) hx hb dX10_fill_80 (by decide) ?_
          refine lv_goto (tgt := 122) hx hb dX10_fill_81 (by decide) ?_
          exact wX10_fill_122 ad A C0 M hr hF (lv_sub hl [0, 1, 2, 3, 4, 5] rfl) Kr Kh0 Kh1
    · have hF := oi_t hc hF
      refine lv_iload hx hb dX10_fill_48 (lv_at hl 4 rfl) ?_
      refine lv_bipush (v := (12 : Int32)) hx hb dX10_fill_50 (by decide) ?_
      refine lv_irem hx hb dX10_fill_52 (by decide) ?_
      refine lv_bipush (v := (11 : Int32)) hx hb dX10_fill_53 (by decide) ?_
      refine lv_icmp_ge (tgt := 62) hx hb dX10_fill_55 (by decide) (fun hc => ?_) (fun hc => ?_)
      · have hF := oi_t hc hF
        refine lv_iconst (v := (0 : Int32)) hx hb dX10_fill_62 (by decide) ?_
        refine lv_goto (tgt := 122) hx hb dX10_fill_63 (by decide) ?_
        exact wX10_fill_122 ad A C0 M hr hF (lv_sub hl [0, 1, 2, 3, 4, 5] rfl) Kr Kh0 Kh1
      · have hF := oi_f hc hF
        refine lv_iconst (v := (1 : Int32)) hx hb dX10_fill_58 (by decide) ?_
        refine lv_goto (tgt := 122) hx hb dX10_fill_59 (by decide) ?_
        exact wX10_fill_122 ad A C0 M hr hF (lv_sub hl [0, 1, 2, 3, 4, 5] rfl) Kr Kh0 Kh1
set_option maxHeartbeats 4000000 in
set_option maxRecDepth 100000 in
theorem tX10_fill (l : Launch) (D : va_G) (cy : Nat → ClassId) (ad : Nat → Nat) (A : Nat → Prop) {S S' : MS} {a0 : Nat} {a1 : Int32} {a2 : Int32} {a3 : Int32} (h : fX10_fill S a0 a1 a2 a3 = some S') : Met l yX10_fill [Cond.code yX10_fill cX10_fill 9 (none)] rmX10_fill (PcR D cy ad A S [.ref (ad a0), .int a1, .int a2, .int a3]) (QcM D cy ad A (m_n S) S' (none)) 0 0 A := by
  refine met_M (by decide +kernel) cw_X10_fill (Nat.le_of_ble_eq_true rfl) ?_
  intro p e s m args below meth c ls C0 M hr hin hl
  have hl : lv_has ls 9 [(0, .ref (ad a0)), (1, .int a1), (2, .int a2), (3, .int a3)] := hl
  have key := lim_walk (step := sX10_fill) (fun (q : ((Nat × Int32 × Int32 × Int32 × MS) ⊕ (Nat × Int32 × Int32 × Int32 × Int32 × Int32 × MS))) (r9 : MS) => ∀ (S' : MS), r9 = S' → ((∀ (y0 : Nat) (y1 : Int32) (y2 : Int32) (y3 : Int32) (S2 : MS), q = (.inl (y0, y1, y2, y3, S2)) → ∀ (H1 : Heap) (locs1 : List Loc) (ls1 : Array Slot), ST D cy ad A s.heap (ZN (m_n S) s.heap.size) S2 H1 locs1 → lv_has ls1 9 [(0, .ref (ad y0)), (2, .int y1), (3, .int y2), (4, .int y3)] → W p l e rmX10_fill s m args below meth c H1 locs1 0 0 (MQ below (QcM D cy ad A (m_n S) S' (none)) args s 0 0 A) (F0 m 17 ls1 [])) ∧ (∀ (y0 : Nat) (y1 : Int32) (y2 : Int32) (y3 : Int32) (y4 : Int32) (y5 : Int32) (S2 : MS), q = (.inr (y0, y1, y2, y3, y4, y5, S2)) → ∀ (H1 : Heap) (locs1 : List Loc) (ls1 : Array Slot), ST D cy ad A s.heap (ZN (m_n S) s.heap.size) S2 H1 locs1 → lv_has ls1 9 [(0, .ref (ad y0)), (2, .int y1), (3, .int y2), (4, .int y3), (5, .int y4), (6, .int y5)] → W p l e rmX10_fill s m args below meth c H1 locs1 0 0 (MQ below (QcM D cy ad A (m_n S) S' (none)) args s 0 0 A) (F0 m 37 ls1 [])))) ?_
  · unfold fX10_fill at h
    cases hs0 : bX10_fill_0 S a0 a1 a2 a3 with
    | none => rw [hs0] at h; cases h
    | some out =>
      rw [hs0] at h
      refine wX10_fill_0 ad A C0 M hr hs0 hl (fun r9 hr9 => ?_) ?_ ?_
      · subst hr9; exact Option.some.inj h
      · intro y0 y1 y2 y3 y4 hq; subst hq; exact (key _ _ h _ rfl).1 _ _ _ _ _ rfl
      · intro y0 y1 y2 y3 y4 y5 y6 hq; subst hq; exact (key _ _ h _ rfl).2 _ _ _ _ _ _ _ rfl
  · intro q r9 out hst hre hin9
    intro S' er; subst er
    refine ⟨?_, ?_⟩
    · intro y0 y1 y2 y3 y4 hq H1 locs1 ls1 M hl
      subst hq
      exact wX10_fill_17 ad A C0 M hr hst hl hre (fun k0 k1 k2 k3 k4 hk => (hin9 _ hk _ rfl).1 _ _ _ _ _ rfl) (fun k0 k1 k2 k3 k4 k5 k6 hk => (hin9 _ hk _ rfl).2 _ _ _ _ _ _ _ rfl)
    · intro y0 y1 y2 y3 y4 y5 y6 hq H1 locs1 ls1 M hl
      subst hq
      exact wX10_fill_37 ad A C0 M hr hst hl hre (fun k0 k1 k2 k3 k4 hk => (hin9 _ hk _ rfl).1 _ _ _ _ _ rfl) (fun k0 k1 k2 k3 k4 k5 k6 hk => (hin9 _ hk _ rfl).2 _ _ _ _ _ _ _ rfl)
set_option maxHeartbeats 4000000 in
set_option maxRecDepth 100000 in
theorem wX10_keepRow_0 {p : Program} {l : Launch} {e : Env} {s : State} {m : MethodId} {args : Array Value} {below : List Frame} {meth : Method} {c : Code} {D : va_G} {cy : Nat → ClassId} (ad : Nat → Nat) (A : Nat → Prop) {S : MS} {S' : MS} {H : Heap} {locs : List Loc} {n0 : Nat} {out : ((Nat × Int32 × Int32 × Int32 × MS) ⊕ MS)} {ls : Array Slot} {x0 : Nat} {x1 : Int32} {x2 : Int32} (C0 : CX p s m args meth c RX10 cX10_keepRow 6 D cy) (M : ST D cy ad A s.heap (ZN n0 s.heap.size) S H locs) (hr : meth.sig.returnType = none) (hF : bX10_keepRow_0 S x0 x1 x2 = some out) (hl : lv_has ls 6 [(0, .ref (ad x0)), (1, .int x1), (2, .int x2)]) (Kr : ∀ r9, out = .inr r9 → r9 = S') (Kh0 : ∀ (y0 : Nat) (y1 : Int32) (y2 : Int32) (y3 : Int32) (S2 : MS), out = .inl (y0, y1, y2, y3, S2) → ∀ (H1 : Heap) (locs1 : List Loc) (ls1 : Array Slot), ST D cy ad A s.heap (ZN n0 s.heap.size) S2 H1 locs1 → lv_has ls1 6 [(0, .ref (ad y0)), (3, .int y1), (4, .int y2), (5, .int y3)] → W p l e rmX10_keepRow s m args below meth c H1 locs1 0 0 (MQ below (QcM D cy ad A n0 S' (none)) args s 0 0 A) (F0 m 8 ls1 [])) : W p l e rmX10_keepRow s m args below meth c H locs 0 0 (MQ below (QcM D cy ad A n0 S' (none)) args s 0 0 A) (F0 m 0 ls []) := by
  unfold bX10_keepRow_0 at hF
  obtain ⟨hx, hb, -, hown, -, hts, -⟩ := id C0
  refine lv_iload_n hx hb dX10_keepRow_0 rfl (lv_at hl 2 rfl) ?_
  refine lv_istore_n (lv' := [(3, .int x2), (0, .ref (ad x0)), (1, .int x1), (2, .int x2)]) hx hb dX10_keepRow_1 rfl hl (by decide) rfl (fun ls hl => ?_)
  refine lv_iload_n hx hb dX10_keepRow_2 rfl (lv_at hl 2 rfl) ?_
  refine lv_istore (lv' := [(4, .int x1), (3, .int x2), (0, .ref (ad x0)), (1, .int x1), (2, .int x2)]) hx hb dX10_keepRow_3 hl (by decide) rfl (fun ls hl => ?_)
  refine lv_iconst (v := (0 : Int32)) hx hb dX10_keepRow_5 (by decide) ?_
  refine lv_istore (lv' := [(5, .int (0 : Int32)), (4, .int x1), (3, .int x2), (0, .ref (ad x0)), (1, .int x1), (2, .int x2)]) hx hb dX10_keepRow_6 hl (by decide) rfl (fun ls hl => ?_)
  exact Kh0 _ _ _ _ _ (Option.some.inj hF).symm _ _ _ M (lv_sub hl [3, 2, 1, 0] rfl)
set_option maxHeartbeats 4000000 in
set_option maxRecDepth 100000 in
theorem wX10_keepRow_58 {p : Program} {l : Launch} {e : Env} {s : State} {m : MethodId} {args : Array Value} {below : List Frame} {meth : Method} {c : Code} {D : va_G} {cy : Nat → ClassId} (ad : Nat → Nat) (A : Nat → Prop) {S : MS} {S' : MS} {H : Heap} {locs : List Loc} {n0 : Nat} {out : ((Nat × Int32 × Int32 × Int32 × MS) ⊕ MS)} {ls : Array Slot} {x0 : Nat} {x3 : Int32} {x4 : Int32} {x5 : Int32} {z0 : Nat} {z1 : Int32} {z2 : Int32} (C0 : CX p s m args meth c RX10 cX10_keepRow 6 D cy) (M : ST D cy ad A s.heap (ZN n0 s.heap.size) S H locs) (hr : meth.sig.returnType = none) (hF : bX10_keepRow_58 S x0 x3 x4 x5 z0 z1 z2 = some out) (hl : lv_has ls 6 [(0, .ref (ad x0)), (3, .int x3), (4, .int x4), (5, .int x5)]) (Kr : ∀ r9, out = .inr r9 → r9 = S') (Kh0 : ∀ (y0 : Nat) (y1 : Int32) (y2 : Int32) (y3 : Int32) (S2 : MS), out = .inl (y0, y1, y2, y3, S2) → ∀ (H1 : Heap) (locs1 : List Loc) (ls1 : Array Slot), ST D cy ad A s.heap (ZN n0 s.heap.size) S2 H1 locs1 → lv_has ls1 6 [(0, .ref (ad y0)), (3, .int y1), (4, .int y2), (5, .int y3)] → W p l e rmX10_keepRow s m args below meth c H1 locs1 0 0 (MQ below (QcM D cy ad A n0 S' (none)) args s 0 0 A) (F0 m 8 ls1 [])) : W p l e rmX10_keepRow s m args below meth c H locs 0 0 (MQ below (QcM D cy ad A n0 S' (none)) args s 0 0 A) (F0 m 58 ls [.int z2, .int z1, .ref (ad z0)]) := by
  unfold bX10_keepRow_58 at hF
  obtain ⟨hx, hb, -, hown, -, hts, -⟩ := id C0
  obtain ⟨S58, hv, hF⟩ := ob hF
  refine k_st C0 M hv dX10_keepRow_58 (fun H locs M => ?_)
  refine lv_iload hx hb dX10_keepRow_59 (lv_at hl 2 rfl) ?_
  refine lv_iload_n hx hb dX10_keepRow_61 rfl (lv_at hl 1 rfl) ?_
  obtain ⟨w62, hv, hF⟩ := ob hF
  refine lv_irem hx hb dX10_keepRow_62 (o_nz_ne hv) ?_
  obtain ⟨v63, hv, hF⟩ := ob hF
  have hv := vtI hv
  refine vtopi hv ?_
  refine lv_istore (lv' := [(4, .int v63), (0, .ref (ad x0)), (3, .int x3), (5, .int x5)]) hx hb dX10_keepRow_63 hl (by decide) rfl (fun ls hl => ?_)
  obtain ⟨v65, hv, hF⟩ := ob hF
  refine lv_iinc (v := v65) (lv' := [(5, .int v65), (4, .int v63), (0, .ref (ad x0)), (3, .int x3)]) hx hb dX10_keepRow_65 hl (k := 3) rfl (by rw [← vtI hv]; rfl) (by decide) rfl (fun ls hl => ?_)
  refine lv_goto (tgt := 8) hx hb dX10_keepRow_68 (by decide) ?_
  exact Kh0 _ _ _ _ _ (Option.some.inj hF).symm _ _ _ M (lv_sub hl [2, 3, 1, 0] rfl)
set_option maxHeartbeats 4000000 in
set_option maxRecDepth 100000 in
theorem wX10_keepRow_8 {p : Program} {l : Launch} {e : Env} {s : State} {m : MethodId} {args : Array Value} {below : List Frame} {meth : Method} {c : Code} {D : va_G} {cy : Nat → ClassId} (ad : Nat → Nat) (A : Nat → Prop) {S : MS} {S' : MS} {H : Heap} {locs : List Loc} {n0 : Nat} {out : ((Nat × Int32 × Int32 × Int32 × MS) ⊕ MS)} {ls : Array Slot} {x0 : Nat} {x3 : Int32} {x4 : Int32} {x5 : Int32} (C0 : CX p s m args meth c RX10 cX10_keepRow 6 D cy) (M : ST D cy ad A s.heap (ZN n0 s.heap.size) S H locs) (hr : meth.sig.returnType = none) (hF : bX10_keepRow_8 S x0 x3 x4 x5 = some out) (hl : lv_has ls 6 [(0, .ref (ad x0)), (3, .int x3), (4, .int x4), (5, .int x5)]) (Kr : ∀ r9, out = .inr r9 → r9 = S') (Kh0 : ∀ (y0 : Nat) (y1 : Int32) (y2 : Int32) (y3 : Int32) (S2 : MS), out = .inl (y0, y1, y2, y3, S2) → ∀ (H1 : Heap) (locs1 : List Loc) (ls1 : Array Slot), ST D cy ad A s.heap (ZN n0 s.heap.size) S2 H1 locs1 → lv_has ls1 6 [(0, .ref (ad y0)), (3, .int y1), (4, .int y2), (5, .int y3)] → W p l e rmX10_keepRow s m args below meth c H1 locs1 0 0 (MQ below (QcM D cy ad A n0 S' (none)) args s 0 0 A) (F0 m 8 ls1 [])) : W p l e rmX10_keepRow s m args below meth c H locs 0 0 (MQ below (QcM D cy ad A n0 S' (none)) args s 0 0 A) (F0 m 8 ls []) := by
  unfold bX10_keepRow_8 at hF
  obtain ⟨hx, hb, -, hown, -, hts, -⟩ := id C0
  refine lv_iload hx hb dX10_keepRow_8 (lv_at hl 3 rfl) ?_
  refine lv_aload_n hx hb dX10_keepRow_10 rfl (lv_at hl 0 rfl) ?_
  obtain ⟨v11, hv, hF⟩ := ob hF
  refine k_getP C0 M.1 hv fl_X10_68 dX10_keepRow_11 ?_
  refine lv_iconst (v := (0 : Int32)) hx hb dX10_keepRow_14 (by decide) ?_
  obtain ⟨v15, hv, hF⟩ := ob hF
  refine k_ld C0 M.1 hv dX10_keepRow_15 ?_
  refine lv_icmp_ge (tgt := 71) hx hb dX10_keepRow_16 (by decide) (fun hc => ?_) (fun hc => ?_)
  · have hF := oi_t hc hF
    obtain rfl := (Kr _ (Option.some.inj hF).symm)
    exact rt_MV C0 M hr dX10_keepRow_71
  · have hF := oi_f hc hF
    refine lv_iload_n hx hb dX10_keepRow_19 rfl (lv_at hl 1 rfl) ?_
    refine lv_aload_n hx hb dX10_keepRow_20 rfl (lv_at hl 0 rfl) ?_
    obtain ⟨v21, hv, hF⟩ := ob hF
    refine k_getP C0 M.1 hv fl_X10_68 dX10_keepRow_21 ?_
    refine lv_iconst (v := (1 : Int32)) hx hb dX10_keepRow_24 (by decide) ?_
    obtain ⟨v25, hv, hF⟩ := ob hF
    refine k_ld C0 M.1 hv dX10_keepRow_25 ?_
    refine lv_iconst (v := (1 : Int32)) hx hb dX10_keepRow_26 (by decide) ?_
    refine lv_iadd hx hb dX10_keepRow_27 ?_
    obtain ⟨w28, hv, hF⟩ := ob hF
    refine lv_idiv hx hb dX10_keepRow_28 (o_nz_ne hv) ?_
    obtain ⟨v29, hv, hF⟩ := ob hF
    have hv := vtI hv
    refine vtopi hv ?_
    refine lv_istore_n (lv' := [(3, .int v29), (0, .ref (ad x0)), (4, .int x4), (5, .int x5)]) hx hb dX10_keepRow_29 rfl hl (by decide) rfl (fun ls hl => ?_)
    refine lv_aload_n hx hb dX10_keepRow_30 rfl (lv_at hl 1 rfl) ?_
    obtain ⟨v31, hv, hF⟩ := ob hF
    refine k_getP C0 M.1 hv fl_X10_95 dX10_keepRow_31 ?_
    refine lv_iload hx hb dX10_keepRow_34 (lv_at hl 3 rfl) ?_
    refine lv_iload hx hb dX10_keepRow_36 (lv_at hl 2 rfl) ?_
    refine lv_iload_n hx hb dX10_keepRow_38 rfl (lv_at hl 0 rfl) ?_
    obtain ⟨w39, hv, hF⟩ := ob hF
    refine lv_idiv hx hb dX10_keepRow_39 (o_nz_ne hv) ?_
    refine lv_aload_n hx hb dX10_keepRow_40 rfl (lv_at hl 1 rfl) ?_
    obtain ⟨v41, hv, hF⟩ := ob hF
    refine k_getP C0 M.1 hv fl_X10_68 dX10_keepRow_41 ?_
    refine lv_iconst (v := (1 : Int32)) hx hb dX10_keepRow_44 (by decide) ?_
    obtain ⟨v45, hv, hF⟩ := ob hF
    refine k_ld C0 M.1 hv dX10_keepRow_45 ?_
    refine lv_icmp_ge (tgt := 56) hx hb dX10_keepRow_46 (by decide) (fun hc => ?_) (fun hc => ?_)
    · have hF := oi_t hc hF
      refine lv_bipush (v := (-9 : Int32)) hx hb dX10_keepRow_56 (by decide) ?_
      exact wX10_keepRow_58 ad A C0 M hr hF (lv_sub hl [1, 0, 2, 3] rfl) Kr Kh0
    · have hF := oi_f hc hF
      refine lv_iload hx hb dX10_keepRow_49 (lv_at hl 2 rfl) ?_
      refine lv_iload_n hx hb dX10_keepRow_51 rfl (lv_at hl 0 rfl) ?_
      obtain ⟨w52, hv, hF⟩ := ob hF
      refine lv_idiv hx hb dX10_keepRow_52 (o_nz_ne hv) ?_
      refine lv_goto (tgt := 58) hx hb dX10_keepRow_53 (by decide) ?_
      exact wX10_keepRow_58 ad A C0 M hr hF (lv_sub hl [1, 0, 2, 3] rfl) Kr Kh0
set_option maxHeartbeats 4000000 in
set_option maxRecDepth 100000 in
theorem tX10_keepRow (l : Launch) (D : va_G) (cy : Nat → ClassId) (ad : Nat → Nat) (A : Nat → Prop) {S S' : MS} {a0 : Nat} {a1 : Int32} {a2 : Int32} (h : fX10_keepRow S a0 a1 a2 = some S') : Met l yX10_keepRow [Cond.code yX10_keepRow cX10_keepRow 6 (none)] rmX10_keepRow (PcR D cy ad A S [.ref (ad a0), .int a1, .int a2]) (QcM D cy ad A (m_n S) S' (none)) 0 0 A := by
  refine met_M (by decide +kernel) cw_X10_keepRow (Nat.le_of_ble_eq_true rfl) ?_
  intro p e s m args below meth c ls C0 M hr hin hl
  have hl : lv_has ls 6 [(0, .ref (ad a0)), (1, .int a1), (2, .int a2)] := hl
  have key := lim_walk (step := sX10_keepRow) (fun (q : (Nat × Int32 × Int32 × Int32 × MS)) (r9 : MS) => ∀ (S' : MS), r9 = S' → ((∀ (y0 : Nat) (y1 : Int32) (y2 : Int32) (y3 : Int32) (S2 : MS), q = (y0, y1, y2, y3, S2) → ∀ (H1 : Heap) (locs1 : List Loc) (ls1 : Array Slot), ST D cy ad A s.heap (ZN (m_n S) s.heap.size) S2 H1 locs1 → lv_has ls1 6 [(0, .ref (ad y0)), (3, .int y1), (4, .int y2), (5, .int y3)] → W p l e rmX10_keepRow s m args below meth c H1 locs1 0 0 (MQ below (QcM D cy ad A (m_n S) S' (none)) args s 0 0 A) (F0 m 8 ls1 [])))) ?_
  · unfold fX10_keepRow at h
    cases hs0 : bX10_keepRow_0 S a0 a1 a2 with
    | none => rw [hs0] at h; cases h
    | some out =>
      rw [hs0] at h
      refine wX10_keepRow_0 ad A C0 M hr hs0 hl (fun r9 hr9 => ?_) ?_
      · subst hr9; exact Option.some.inj h
      · intro y0 y1 y2 y3 y4 hq; subst hq; exact (key _ _ h _ rfl) _ _ _ _ _ rfl
  · intro q r9 out hst hre hin9
    intro S' er; subst er
    refine ?_
    · intro y0 y1 y2 y3 y4 hq H1 locs1 ls1 M hl
      subst hq
      exact wX10_keepRow_8 ad A C0 M hr hst hl hre (fun k0 k1 k2 k3 k4 hk => (hin9 _ hk _ rfl) _ _ _ _ _ rfl)
set_option maxHeartbeats 4000000 in
set_option maxRecDepth 100000 in
theorem wX10_findJoining_0 {p : Program} {l : Launch} {e : Env} {s : State} {m : MethodId} {args : Array Value} {below : List Frame} {meth : Method} {c : Code} {D : va_G} {cy : Nat → ClassId} (ad : Nat → Nat) (A : Nat → Prop) {S : MS} {S' : MS} {H : Heap} {locs : List Loc} {n0 : Nat} {out : (((Nat × Int32 × Int32 × MS) ⊕ ((Nat × Int32 × Int32 × MS) ⊕ (Nat × Int32 × Int32 × Int32 × Int32 × Int32 × Int32 × Int32 × MS))) ⊕ MS)} {ls : Array Slot} {x0 : Nat} (C0 : CX p s m args meth c RX10 cX10_findJoining 9 D cy) (M : ST D cy ad A s.heap (ZN n0 s.heap.size) S H locs) (hr : meth.sig.returnType = none) (hF : bX10_findJoining_0 S x0 = some out) (hl : lv_has ls 9 [(0, .ref (ad x0))]) (Kr : ∀ r9, out = .inr r9 → r9 = S') (Kh0 : ∀ (y0 : Nat) (y1 : Int32) (y2 : Int32) (S2 : MS), out = .inl (.inl (y0, y1, y2, S2)) → ∀ (H1 : Heap) (locs1 : List Loc) (ls1 : Array Slot), ST D cy ad A s.heap (ZN n0 s.heap.size) S2 H1 locs1 → lv_has ls1 9 [(0, .ref (ad y0)), (1, .int y1), (2, .int y2)] → W p l e rmX10_findJoining s m args below meth c H1 locs1 0 0 (MQ below (QcM D cy ad A n0 S' (none)) args s 0 0 A) (F0 m 4 ls1 [])) (Kh1 : ∀ (y0 : Nat) (y1 : Int32) (y2 : Int32) (S2 : MS), out = .inl (.inr (.inl (y0, y1, y2, S2))) → ∀ (H1 : Heap) (locs1 : List Loc) (ls1 : Array Slot), ST D cy ad A s.heap (ZN n0 s.heap.size) S2 H1 locs1 → lv_has ls1 9 [(0, .ref (ad y0)), (1, .int y1), (2, .int y2)] → W p l e rmX10_findJoining s m args below meth c H1 locs1 0 0 (MQ below (QcM D cy ad A n0 S' (none)) args s 0 0 A) (F0 m 40 ls1 [])) (Kh2 : ∀ (y0 : Nat) (y1 : Int32) (y2 : Int32) (y3 : Int32) (y4 : Int32) (y5 : Int32) (y6 : Int32) (y7 : Int32) (S2 : MS), out = .inl (.inr (.inr (y0, y1, y2, y3, y4, y5, y6, y7, S2))) → ∀ (H1 : Heap) (locs1 : List Loc) (ls1 : Array Slot), ST D cy ad A s.heap (ZN n0 s.heap.size) S2 H1 locs1 → lv_has ls1 9 [(0, .ref (ad y0)), (1, .int y1), (2, .int y2), (3, .int y3), (4, .int y4), (5, .int y5), (6, .int y6), (7, .int y7)] → W p l e rmX10_findJoining s m args below meth c H1 locs1 0 0 (MQ below (QcM D cy ad A n0 S' (none)) args s 0 0 A) (F0 m 74 ls1 [])) : W p l e rmX10_findJoining s m args below meth c H locs 0 0 (MQ below (QcM D cy ad A n0 S' (none)) args s 0 0 A) (F0 m 0 ls []) := by
  unfold bX10_findJoining_0 at hF
  obtain ⟨hx, hb, -, hown, -, hts, -⟩ := id C0
  refine lv_iconst (v := (1 : Int32)) hx hb dX10_findJoining_0 (by decide) ?_
  refine lv_istore_n (lv' := [(1, .int (1 : Int32)), (0, .ref (ad x0))]) hx hb dX10_findJoining_1 rfl hl (by decide) rfl (fun ls hl => ?_)
  refine lv_iconst (v := (0 : Int32)) hx hb dX10_findJoining_2 (by decide) ?_
  refine lv_istore_n (lv' := [(2, .int (0 : Int32)), (1, .int (1 : Int32)), (0, .ref (ad x0))]) hx hb dX10_findJoining_3 rfl hl (by decide) rfl (fun ls hl => ?_)
  exact Kh0 _ _ _ _ (Option.some.inj hF).symm _ _ _ M (lv_sub hl [2, 1, 0] rfl)
set_option maxHeartbeats 4000000 in
set_option maxRecDepth 100000 in
theorem wX10_findJoining_4 {p : Program} {l : Launch} {e : Env} {s : State} {m : MethodId} {args : Array Value} {below : List Frame} {meth : Method} {c : Code} {D : va_G} {cy : Nat → ClassId} (ad : Nat → Nat) (A : Nat → Prop) {S : MS} {S' : MS} {H : Heap} {locs : List Loc} {n0 : Nat} {out : (((Nat × Int32 × Int32 × MS) ⊕ ((Nat × Int32 × Int32 × MS) ⊕ (Nat × Int32 × Int32 × Int32 × Int32 × Int32 × Int32 × Int32 × MS))) ⊕ MS)} {ls : Array Slot} {x0 : Nat} {x1 : Int32} {x2 : Int32} (C0 : CX p s m args meth c RX10 cX10_findJoining 9 D cy) (M : ST D cy ad A s.heap (ZN n0 s.heap.size) S H locs) (hr : meth.sig.returnType = none) (hF : bX10_findJoining_4 S x0 x1 x2 = some out) (hl : lv_has ls 9 [(0, .ref (ad x0)), (1, .int x1), (2, .int x2)]) (Kr : ∀ r9, out = .inr r9 → r9 = S') (Kh0 : ∀ (y0 : Nat) (y1 : Int32) (y2 : Int32) (S2 : MS), out = .inl (.inl (y0, y1, y2, S2)) → ∀ (H1 : Heap) (locs1 : List Loc) (ls1 : Array Slot), ST D cy ad A s.heap (ZN n0 s.heap.size) S2 H1 locs1 → lv_has ls1 9 [(0, .ref (ad y0)), (1, .int y1), (2, .int y2)] → W p l e rmX10_findJoining s m args below meth c H1 locs1 0 0 (MQ below (QcM D cy ad A n0 S' (none)) args s 0 0 A) (F0 m 4 ls1 [])) (Kh1 : ∀ (y0 : Nat) (y1 : Int32) (y2 : Int32) (S2 : MS), out = .inl (.inr (.inl (y0, y1, y2, S2))) → ∀ (H1 : Heap) (locs1 : List Loc) (ls1 : Array Slot), ST D cy ad A s.heap (ZN n0 s.heap.size) S2 H1 locs1 → lv_has ls1 9 [(0, .ref (ad y0)), (1, .int y1), (2, .int y2)] → W p l e rmX10_findJoining s m args below meth c H1 locs1 0 0 (MQ below (QcM D cy ad A n0 S' (none)) args s 0 0 A) (F0 m 40 ls1 [])) (Kh2 : ∀ (y0 : Nat) (y1 : Int32) (y2 : Int32) (y3 : Int32) (y4 : Int32) (y5 : Int32) (y6 : Int32) (y7 : Int32) (S2 : MS), out = .inl (.inr (.inr (y0, y1, y2, y3, y4, y5, y6, y7, S2))) → ∀ (H1 : Heap) (locs1 : List Loc) (ls1 : Array Slot), ST D cy ad A s.heap (ZN n0 s.heap.size) S2 H1 locs1 → lv_has ls1 9 [(0, .ref (ad y0)), (1, .int y1), (2, .int y2), (3, .int y3), (4, .int y4), (5, .int y5), (6, .int y6), (7, .int y7)] → W p l e rmX10_findJoining s m args below meth c H1 locs1 0 0 (MQ below (QcM D cy ad A n0 S' (none)) args s 0 0 A) (F0 m 74 ls1 [])) : W p l e rmX10_findJoining s m args below meth c H locs 0 0 (MQ below (QcM D cy ad A n0 S' (none)) args s 0 0 A) (F0 m 4 ls []) := by
  unfold bX10_findJoining_4 at hF
  obtain ⟨hx, hb, -, hown, -, hts, -⟩ := id C0
  refine lv_iload_n hx hb dX10_findJoining_4 rfl (lv_at hl 2 rfl) ?_
  refine lv_aload_n hx hb dX10_findJoining_5 rfl (lv_at hl 0 rfl) ?_
  obtain ⟨v6, hv, hF⟩ := ob hF
  refine k_getP C0 M.1 hv fl_X10_68 dX10_findJoining_6 ?_
  refine lv_iconst (v := (0 : Int32)) hx hb dX10_findJoining_9 (by decide) ?_
  obtain ⟨v10, hv, hF⟩ := ob hF
  refine k_ld C0 M.1 hv dX10_findJoining_10 ?_
  refine lv_icmp_ge (tgt := 31) hx hb dX10_findJoining_11 (by decide) (fun hc => ?_) (fun hc => ?_)
  · have hF := oi_t hc hF
    refine lv_aload_n hx hb dX10_findJoining_31 rfl (lv_at hl 0 rfl) ?_
    refine lv_ldcw (v := (1000000 : Int32)) hx hb hown (hts _ (uw_of 1483 (by decide +kernel) rfl)) dX10_findJoining_32 ?_
    obtain ⟨S35, hv, hF⟩ := ob hF
    refine k_sI C0 M hv fl_X10_346 dX10_findJoining_35 (fun H locs M => ?_)
    refine lv_iconst (v := (0 : Int32)) hx hb dX10_findJoining_38 (by decide) ?_
    refine lv_istore_n (lv' := [(2, .int (0 : Int32)), (0, .ref (ad x0)), (1, .int x1)]) hx hb dX10_findJoining_39 rfl hl (by decide) rfl (fun ls hl => ?_)
    exact Kh1 _ _ _ _ (Option.some.inj hF).symm _ _ _ M (lv_sub hl [1, 2, 0] rfl)
  · have hF := oi_f hc hF
    refine lv_iload_n hx hb dX10_findJoining_14 rfl (lv_at hl 1 rfl) ?_
    refine lv_aload_n hx hb dX10_findJoining_15 rfl (lv_at hl 0 rfl) ?_
    obtain ⟨v16, hv, hF⟩ := ob hF
    refine k_getP C0 M.1 hv fl_X10_68 dX10_findJoining_16 ?_
    refine lv_iconst (v := (1 : Int32)) hx hb dX10_findJoining_19 (by decide) ?_
    obtain ⟨v20, hv, hF⟩ := ob hF
    refine k_ld C0 M.1 hv dX10_findJoining_20 ?_
    refine lv_iconst (v := (1 : Int32)) hx hb dX10_findJoining_21 (by decide) ?_
    refine lv_iadd hx hb dX10_findJoining_22 ?_
    refine lv_imul hx hb dX10_findJoining_23 ?_
    obtain ⟨v24, hv, hF⟩ := ob hF
    have hv := vtI hv
    refine vtopi hv ?_
    refine lv_istore_n (lv' := [(1, .int v24), (0, .ref (ad x0)), (2, .int x2)]) hx hb dX10_findJoining_24 rfl hl (by decide) rfl (fun ls hl => ?_)
    obtain ⟨v25, hv, hF⟩ := ob hF
    refine lv_iinc (v := v25) (lv' := [(2, .int v25), (1, .int v24), (0, .ref (ad x0))]) hx hb dX10_findJoining_25 hl (k := 2) rfl (by rw [← vtI hv]; rfl) (by decide) rfl (fun ls hl => ?_)
    refine lv_goto (tgt := 4) hx hb dX10_findJoining_28 (by decide) ?_
    exact Kh0 _ _ _ _ (Option.some.inj hF).symm _ _ _ M (lv_sub hl [2, 1, 0] rfl)
set_option maxHeartbeats 4000000 in
set_option maxRecDepth 100000 in
theorem wX10_findJoining_40 {p : Program} {l : Launch} {e : Env} {s : State} {m : MethodId} {args : Array Value} {below : List Frame} {meth : Method} {c : Code} {D : va_G} {cy : Nat → ClassId} (ad : Nat → Nat) (A : Nat → Prop) {S : MS} {S' : MS} {H : Heap} {locs : List Loc} {n0 : Nat} {out : (((Nat × Int32 × Int32 × MS) ⊕ ((Nat × Int32 × Int32 × MS) ⊕ (Nat × Int32 × Int32 × Int32 × Int32 × Int32 × Int32 × Int32 × MS))) ⊕ MS)} {ls : Array Slot} {x0 : Nat} {x1 : Int32} {x2 : Int32} (C0 : CX p s m args meth c RX10 cX10_findJoining 9 D cy) (M : ST D cy ad A s.heap (ZN n0 s.heap.size) S H locs) (hr : meth.sig.returnType = none) (hF : bX10_findJoining_40 S x0 x1 x2 = some out) (hl : lv_has ls 9 [(0, .ref (ad x0)), (1, .int x1), (2, .int x2)]) (Kr : ∀ r9, out = .inr r9 → r9 = S') (Kh0 : ∀ (y0 : Nat) (y1 : Int32) (y2 : Int32) (S2 : MS), out = .inl (.inl (y0, y1, y2, S2)) → ∀ (H1 : Heap) (locs1 : List Loc) (ls1 : Array Slot), ST D cy ad A s.heap (ZN n0 s.heap.size) S2 H1 locs1 → lv_has ls1 9 [(0, .ref (ad y0)), (1, .int y1), (2, .int y2)] → W p l e rmX10_findJoining s m args below meth c H1 locs1 0 0 (MQ below (QcM D cy ad A n0 S' (none)) args s 0 0 A) (F0 m 4 ls1 [])) (Kh1 : ∀ (y0 : Nat) (y1 : Int32) (y2 : Int32) (S2 : MS), out = .inl (.inr (.inl (y0, y1, y2, S2))) → ∀ (H1 : Heap) (locs1 : List Loc) (ls1 : Array Slot), ST D cy ad A s.heap (ZN n0 s.heap.size) S2 H1 locs1 → lv_has ls1 9 [(0, .ref (ad y0)), (1, .int y1), (2, .int y2)] → W p l e rmX10_findJoining s m args below meth c H1 locs1 0 0 (MQ below (QcM D cy ad A n0 S' (none)) args s 0 0 A) (F0 m 40 ls1 [])) (Kh2 : ∀ (y0 : Nat) (y1 : Int32) (y2 : Int32) (y3 : Int32) (y4 : Int32) (y5 : Int32) (y6 : Int32) (y7 : Int32) (S2 : MS), out = .inl (.inr (.inr (y0, y1, y2, y3, y4, y5, y6, y7, S2))) → ∀ (H1 : Heap) (locs1 : List Loc) (ls1 : Array Slot), ST D cy ad A s.heap (ZN n0 s.heap.size) S2 H1 locs1 → lv_has ls1 9 [(0, .ref (ad y0)), (1, .int y1), (2, .int y2), (3, .int y3), (4, .int y4), (5, .int y5), (6, .int y6), (7, .int y7)] → W p l e rmX10_findJoining s m args below meth c H1 locs1 0 0 (MQ below (QcM D cy ad A n0 S' (none)) args s 0 0 A) (F0 m 74 ls1 [])) : W p l e rmX10_findJoining s m args below meth c H locs 0 0 (MQ below (QcM D cy ad A n0 S' (none)) args s 0 0 A) (F0 m 40 ls []) := by
  unfold bX10_findJoining_40 at hF
  obtain ⟨hx, hb, -, hown, -, hts, -⟩ := id C0
  refine lv_iload_n hx hb dX10_findJoining_40 rfl (lv_at hl 2 rfl) ?_
  refine lv_iload_n hx hb dX10_findJoining_41 rfl (lv_at hl 1 rfl) ?_
  refine lv_icmp_ge (tgt := 193) hx hb dX10_findJoining_42 (by decide) (fun hc => ?_) (fun hc => ?_)
  · have hF := oi_t hc hF
    obtain rfl := (Kr _ (Option.some.inj hF).symm)
    exact rt_MV C0 M hr dX10_findJoining_193
  · have hF := oi_f hc hF
    refine lv_iload_n hx hb dX10_findJoining_45 rfl (lv_at hl 1 rfl) ?_
    refine lv_istore_n (lv' := [(3, .int x1), (0, .ref (ad x0)), (1, .int x1), (2, .int x2)]) hx hb dX10_findJoining_46 rfl hl (by decide) rfl (fun ls hl => ?_)
    refine lv_iload_n hx hb dX10_findJoining_47 rfl (lv_at hl 3 rfl) ?_
    refine lv_istore (lv' := [(4, .int x2), (3, .int x1), (0, .ref (ad x0)), (1, .int x1), (2, .int x2)]) hx hb dX10_findJoining_48 hl (by decide) rfl (fun ls hl => ?_)
    refine lv_iconst (v := (0 : Int32)) hx hb dX10_findJoining_50 (by decide) ?_
    refine lv_istore (lv' := [(5, .int (0 : Int32)), (4, .int x2), (3, .int x1), (0, .ref (ad x0)), (1, .int x1), (2, .int x2)]) hx hb dX10_findJoining_51 hl (by decide) rfl (fun ls hl => ?_)
    refine lv_bipush (v := (15 : Int32)) hx hb dX10_findJoining_53 (by decide) ?_
    refine lv_aload_n hx hb dX10_findJoining_55 rfl (lv_at hl 3 rfl) ?_
    obtain ⟨v56, hv, hF⟩ := ob hF
    refine k_getP C0 M.1 hv fl_X10_68 dX10_findJoining_56 ?_
    refine lv_iconst (v := (0 : Int32)) hx hb dX10_findJoining_59 (by decide) ?_
    obtain ⟨v60, hv, hF⟩ := ob hF
    refine k_ld C0 M.1 hv dX10_findJoining_60 ?_
    refine lv_aload_n hx hb dX10_findJoining_61 rfl (lv_at hl 3 rfl) ?_
    obtain ⟨v62, hv, hF⟩ := ob hF
    refine k_getP C0 M.1 hv fl_X10_68 dX10_findJoining_62 ?_
    refine lv_iconst (v := (1 : Int32)) hx hb dX10_findJoining_65 (by decide) ?_
    obtain ⟨v66, hv, hF⟩ := ob hF
    refine k_ld C0 M.1 hv dX10_findJoining_66 ?_
    refine lv_iadd hx hb dX10_findJoining_67 ?_
    refine lv_imul hx hb dX10_findJoining_68 ?_
    obtain ⟨v69, hv, hF⟩ := ob hF
    have hv := vtI hv
    refine vtopi hv ?_
    refine lv_istore (lv' := [(6, .int v69), (5, .int (0 : Int32)), (4, .int x2), (3, .int x1), (0, .ref (ad x0)), (1, .int x1), (2, .int x2)]) hx hb dX10_findJoining_69 hl (by decide) rfl (fun ls hl => ?_)
    refine lv_iconst (v := (0 : Int32)) hx hb dX10_findJoining_71 (by decide) ?_
    refine lv_istore (lv' := [(7, .int (0 : Int32)), (6, .int v69), (5, .int (0 : Int32)), (4, .int x2), (3, .int x1), (0, .ref (ad x0)), (1, .int x1), (2, .int x2)]) hx hb dX10_findJoining_72 hl (by decide) rfl (fun ls hl => ?_)
    exact Kh2 _ _ _ _ _ _ _ _ _ (Option.some.inj hF).symm _ _ _ M (lv_sub hl [5, 6, 7, 4, 3, 2, 1, 0] rfl)
set_option maxHeartbeats 4000000 in
set_option maxRecDepth 100000 in
theorem wX10_findJoining_160 {p : Program} {l : Launch} {e : Env} {s : State} {m : MethodId} {args : Array Value} {below : List Frame} {meth : Method} {c : Code} {D : va_G} {cy : Nat → ClassId} (ad : Nat → Nat) (A : Nat → Prop) {S : MS} {S' : MS} {H : Heap} {locs : List Loc} {n0 : Nat} {out : (((Nat × Int32 × Int32 × MS) ⊕ ((Nat × Int32 × Int32 × MS) ⊕ (Nat × Int32 × Int32 × Int32 × Int32 × Int32 × Int32 × Int32 × MS))) ⊕ MS)} {ls : Array Slot} {x0 : Nat} {x1 : Int32} {x2 : Int32} {x3 : Int32} {x4 : Int32} {x5 : Int32} {x6 : Int32} {x7 : Int32} (C0 : CX p s m args meth c RX10 cX10_findJoining 9 D cy) (M : ST D cy ad A s.heap (ZN n0 s.heap.size) S H locs) (hr : meth.sig.returnType = none) (hF : bX10_findJoining_160 S x0 x1 x2 x3 x4 x5 x6 x7 = some out) (hl : lv_has ls 9 [(0, .ref (ad x0)), (1, .int x1), (2, .int x2), (3, .int x3), (4, .int x4), (5, .int x5), (6, .int x6), (7, .int x7)]) (Kr : ∀ r9, out = .inr r9 → r9 = S') (Kh0 : ∀ (y0 : Nat) (y1 : Int32) (y2 : Int32) (S2 : MS), out = .inl (.inl (y0, y1, y2, S2)) → ∀ (H1 : Heap) (locs1 : List Loc) (ls1 : Array Slot), ST D cy ad A s.heap (ZN n0 s.heap.size) S2 H1 locs1 → lv_has ls1 9 [(0, .ref (ad y0)), (1, .int y1), (2, .int y2)] → W p l e rmX10_findJoining s m args below meth c H1 locs1 0 0 (MQ below (QcM D cy ad A n0 S' (none)) args s 0 0 A) (F0 m 4 ls1 [])) (Kh1 : ∀ (y0 : Nat) (y1 : Int32) (y2 : Int32) (S2 : MS), out = .inl (.inr (.inl (y0, y1, y2, S2))) → ∀ (H1 : Heap) (locs1 : List Loc) (ls1 : Array Slot), ST D cy ad A s.heap (ZN n0 s.heap.size) S2 H1 locs1 → lv_has ls1 9 [(0, .ref (ad y0)), (1, .int y1), (2, .int y2)] → W p l e rmX10_findJoining s m args below meth c H1 locs1 0 0 (MQ below (QcM D cy ad A n0 S' (none)) args s 0 0 A) (F0 m 40 ls1 [])) (Kh2 : ∀ (y0 : Nat) (y1 : Int32) (y2 : Int32) (y3 : Int32) (y4 : Int32) (y5 : Int32) (y6 : Int32) (y7 : Int32) (S2 : MS), out = .inl (.inr (.inr (y0, y1, y2, y3, y4, y5, y6, y7, S2))) → ∀ (H1 : Heap) (locs1 : List Loc) (ls1 : Array Slot), ST D cy ad A s.heap (ZN n0 s.heap.size) S2 H1 locs1 → lv_has ls1 9 [(0, .ref (ad y0)), (1, .int y1), (2, .int y2), (3, .int y3), (4, .int y4), (5, .int y5), (6, .int y6), (7, .int y7)] → W p l e rmX10_findJoining s m args below meth c H1 locs1 0 0 (MQ below (QcM D cy ad A n0 S' (none)) args s 0 0 A) (F0 m 74 ls1 [])) : W p l e rmX10_findJoining s m args below meth c H locs 0 0 (MQ below (QcM D cy ad A n0 S' (none)) args s 0 0 A) (F0 m 160 ls []) := by
  unfold bX10_findJoining_160 at hF
  obtain ⟨hx, hb, -, hown, -, hts, -⟩ := id C0
  obtain ⟨v160, hv, hF⟩ := ob hF
  refine lv_iinc (v := v160) (lv' := [(7, .int v160), (0, .ref (ad x0)), (1, .int x1), (2, .int x2), (3, .int x3), (4, .int x4), (5, .int x5), (6, .int x6)]) hx hb dX10_findJoining_160 hl (k := 7) rfl (by rw [← vtI hv]; rfl) (by decide) rfl (fun ls hl => ?_)
  refine lv_goto (tgt := 74) hx hb dX10_findJoining_163 (by decide) ?_
  exact Kh2 _ _ _ _ _ _ _ _ _ (Option.some.inj hF).symm _ _ _ M (lv_sub hl [1, 2, 3, 4, 5, 6, 7, 0] rfl)
set_option maxHeartbeats 4000000 in
set_option maxRecDepth 100000 in
theorem wX10_findJoining_148 {p : Program} {l : Launch} {e : Env} {s : State} {m : MethodId} {args : Array Value} {below : List Frame} {meth : Method} {c : Code} {D : va_G} {cy : Nat → ClassId} (ad : Nat → Nat) (A : Nat → Prop) {S : MS} {S' : MS} {H : Heap} {locs : List Loc} {n0 : Nat} {out : (((Nat × Int32 × Int32 × MS) ⊕ ((Nat × Int32 × Int32 × MS) ⊕ (Nat × Int32 × Int32 × Int32 × Int32 × Int32 × Int32 × Int32 × MS))) ⊕ MS)} {ls : Array Slot} {x0 : Nat} {x1 : Int32} {x2 : Int32} {x3 : Int32} {x4 : Int32} {x5 : Int32} {x7 : Int32} {x8 : Int32} {z0 : Int32} {z1 : Int32} (C0 : CX p s m args meth c RX10 cX10_findJoining 9 D cy) (M : ST D cy ad A s.heap (ZN n0 s.heap.size) S H locs) (hr : meth.sig.returnType = none) (hF : bX10_findJoining_148 S x0 x1 x2 x3 x4 x5 x7 x8 z0 z1 = some out) (hl : lv_has ls 9 [(0, .ref (ad x0)), (1, .int x1), (2, .int x2), (3, .int x3), (4, .int x4), (5, .int x5), (7, .int x7), (8, .int x8)]) (Kr : ∀ r9, out = .inr r9 → r9 = S') (Kh0 : ∀ (y0 : Nat) (y1 : Int32) (y2 : Int32) (S2 : MS), out = .inl (.inl (y0, y1, y2, S2)) → ∀ (H1 : Heap) (locs1 : List Loc) (ls1 : Array Slot), ST D cy ad A s.heap (ZN n0 s.heap.size) S2 H1 locs1 → lv_has ls1 9 [(0, .ref (ad y0)), (1, .int y1), (2, .int y2)] → W p l e rmX10_findJoining s m args below meth c H1 locs1 0 0 (MQ below (QcM D cy ad A n0 S' (none)) args s 0 0 A) (F0 m 4 ls1 [])) (Kh1 : ∀ (y0 : Nat) (y1 : Int32) (y2 : Int32) (S2 : MS), out = .inl (.inr (.inl (y0, y1, y2, S2))) → ∀ (H1 : Heap) (locs1 : List Loc) (ls1 : Array Slot), ST D cy ad A s.heap (ZN n0 s.heap.size) S2 H1 locs1 → lv_has ls1 9 [(0, .ref (ad y0)), (1, .int y1), (2, .int y2)] → W p l e rmX10_findJoining s m args below meth c H1 locs1 0 0 (MQ below (QcM D cy ad A n0 S' (none)) args s 0 0 A) (F0 m 40 ls1 [])) (Kh2 : ∀ (y0 : Nat) (y1 : Int32) (y2 : Int32) (y3 : Int32) (y4 : Int32) (y5 : Int32) (y6 : Int32) (y7 : Int32) (S2 : MS), out = .inl (.inr (.inr (y0, y1, y2, y3, y4, y5, y6, y7, S2))) → ∀ (H1 : Heap) (locs1 : List Loc) (ls1 : Array Slot), ST D cy ad A s.heap (ZN n0 s.heap.size) S2 H1 locs1 → lv_has ls1 9 [(0, .ref (ad y0)), (1, .int y1), (2, .int y2), (3, .int y3), (4, .int y4), (5, .int y5), (6, .int y6), (7, .int y7)] → W p l e rmX10_findJoining s m args below meth c H1 locs1 0 0 (MQ below (QcM D cy ad A n0 S' (none)) args s 0 0 A) (F0 m 74 ls1 [])) : W p l e rmX10_findJoining s m args below meth c H locs 0 0 (MQ below (QcM D cy ad A n0 S' (none)) args s 0 0 A) (F0 m 148 ls [.int z1, .int z0]) := by
  unfold bX10_findJoining_148 at hF
  obtain ⟨hx, hb, -, hown, -, hts, -⟩ := id C0
  refine lv_iadd hx hb dX10_findJoining_148 ?_
  obtain ⟨v149, hv, hF⟩ := ob hF
  have hv := vtI hv
  refine vtopi hv ?_
  refine lv_istore (lv' := [(6, .int v149), (0, .ref (ad x0)), (1, .int x1), (2, .int x2), (3, .int x3), (4, .int x4), (5, .int x5), (7, .int x7), (8, .int x8)]) hx hb dX10_findJoining_149 hl (by decide) rfl (fun ls hl => ?_)
  refine lv_iload hx hb dX10_findJoining_151 (lv_at hl 6 rfl) ?_
  refine lv_iconst (v := (1 : Int32)) hx hb dX10_findJoining_153 (by decide) ?_
  refine lv_iload hx hb dX10_findJoining_154 (lv_at hl 8 rfl) ?_
  refine lv_ishl hx hb dX10_findJoining_156 ?_
  refine lv_ior hx hb dX10_findJoining_157 ?_
  obtain ⟨v158, hv, hF⟩ := ob hF
  have hv := vtI hv
  refine vtopi hv ?_
  refine lv_istore (lv' := [(5, .int v158), (6, .int v149), (0, .ref (ad x0)), (1, .int x1), (2, .int x2), (3, .int x3), (4, .int x4), (7, .int x7), (8, .int x8)]) hx hb dX10_findJoining_158 hl (by decide) rfl (fun ls hl => ?_)
  exact wX10_findJoining_160 ad A C0 M hr hF (lv_sub hl [2, 3, 4, 5, 6, 0, 1, 7] rfl) Kr Kh0 Kh1 Kh2
set_option maxHeartbeats 4000000 in
set_option maxRecDepth 100000 in
theorem wX10_findJoining_187 {p : Program} {l : Launch} {e : Env} {s : State} {m : MethodId} {args : Array Value} {below : List Frame} {meth : Method} {c : Code} {D : va_G} {cy : Nat → ClassId} (ad : Nat → Nat) (A : Nat → Prop) {S : MS} {S' : MS} {H : Heap} {locs : List Loc} {n0 : Nat} {out : (((Nat × Int32 × Int32 × MS) ⊕ ((Nat × Int32 × Int32 × MS) ⊕ (Nat × Int32 × Int32 × Int32 × Int32 × Int32 × Int32 × Int32 × MS))) ⊕ MS)} {ls : Array Slot} {x0 : Nat} {x1 : Int32} {x2 : Int32} (C0 : CX p s m args meth c RX10 cX10_findJoining 9 D cy) (M : ST D cy ad A s.heap (ZN n0 s.heap.size) S H locs) (hr : meth.sig.returnType = none) (hF : bX10_findJoining_187 S x0 x1 x2 = some out) (hl : lv_has ls 9 [(0, .ref (ad x0)), (1, .int x1), (2, .int x2)]) (Kr : ∀ r9, out = .inr r9 → r9 = S') (Kh0 : ∀ (y0 : Nat) (y1 : Int32) (y2 : Int32) (S2 : MS), out = .inl (.inl (y0, y1, y2, S2)) → ∀ (H1 : Heap) (locs1 : List Loc) (ls1 : Array Slot), ST D cy ad A s.heap (ZN n0 s.heap.size) S2 H1 locs1 → lv_has ls1 9 [(0, .ref (ad y0)), (1, .int y1), (2, .int y2)] → W p l e rmX10_findJoining s m args below meth c H1 locs1 0 0 (MQ below (QcM D cy ad A n0 S' (none)) args s 0 0 A) (F0 m 4 ls1 [])) (Kh1 : ∀ (y0 : Nat) (y1 : Int32) (y2 : Int32) (S2 : MS), out = .inl (.inr (.inl (y0, y1, y2, S2))) → ∀ (H1 : Heap) (locs1 : List Loc) (ls1 : Array Slot), ST D cy ad A s.heap (ZN n0 s.heap.size) S2 H1 locs1 → lv_has ls1 9 [(0, .ref (ad y0)), (1, .int y1), (2, .int y2)] → W p l e rmX10_findJoining s m args below meth c H1 locs1 0 0 (MQ below (QcM D cy ad A n0 S' (none)) args s 0 0 A) (F0 m 40 ls1 [])) (Kh2 : ∀ (y0 : Nat) (y1 : Int32) (y2 : Int32) (y3 : Int32) (y4 : Int32) (y5 : Int32) (y6 : Int32) (y7 : Int32) (S2 : MS), out = .inl (.inr (.inr (y0, y1, y2, y3, y4, y5, y6, y7, S2))) → ∀ (H1 : Heap) (locs1 : List Loc) (ls1 : Array Slot), ST D cy ad A s.heap (ZN n0 s.heap.size) S2 H1 locs1 → lv_has ls1 9 [(0, .ref (ad y0)), (1, .int y1), (2, .int y2), (3, .int y3), (4, .int y4), (5, .int y5), (6, .int y6), (7, .int y7)] → W p l e rmX10_findJoining s m args below meth c H1 locs1 0 0 (MQ below (QcM D cy ad A n0 S' (none)) args s 0 0 A) (F0 m 74 ls1 [])) : W p l e rmX10_findJoining s m args below meth c H locs 0 0 (MQ below (QcM D cy ad A n0 S' (none)) args s 0 0 A) (F0 m 187 ls []) := by
  unfold bX10_findJoining_187 at hF
  obtain ⟨hx, hb, -, hown, -, hts, -⟩ := id C0
  obtain ⟨v187, hv, hF⟩ := ob hF
  refine lv_iinc (v := v187) (lv' := [(2, .int v187), (0, .ref (ad x0)), (1, .int x1)]) hx hb dX10_findJoining_187 hl (k := 2) rfl (by rw [← vtI hv]; rfl) (by decide) rfl (fun ls hl => ?_)
  refine lv_goto (tgt := 40) hx hb dX10_findJoining_190 (by decide) ?_
  exact Kh1 _ _ _ _ (Option.some.inj hF).symm _ _ _ M (lv_sub hl [1, 2, 0] rfl)
set_option maxHeartbeats 4000000 in
set_option maxRecDepth 100000 in
theorem wX10_findJoining_74 {p : Program} {l : Launch} {e : Env} {s : State} {m : MethodId} {args : Array Value} {below : List Frame} {meth : Method} {c : Code} {D : va_G} {cy : Nat → ClassId} (ad : Nat → Nat) (A : Nat → Prop) {S : MS} {S' : MS} {H : Heap} {locs : List Loc} {n0 : Nat} {out : (((Nat × Int32 × Int32 × MS) ⊕ ((Nat × Int32 × Int32 × MS) ⊕ (Nat × Int32 × Int32 × Int32 × Int32 × Int32 × Int32 × Int32 × MS))) ⊕ MS)} {ls : Array Slot} {x0 : Nat} {x1 : Int32} {x2 : Int32} {x3 : Int32} {x4 : Int32} {x5 : Int32} {x6 : Int32} {x7 : Int32} (C0 : CX p s m args meth c RX10 cX10_findJoining 9 D cy) (M : ST D cy ad A s.heap (ZN n0 s.heap.size) S H locs) (hr : meth.sig.returnType = none) (hF : bX10_findJoining_74 S x0 x1 x2 x3 x4 x5 x6 x7 = some out) (hl : lv_has ls 9 [(0, .ref (ad x0)), (1, .int x1), (2, .int x2), (3, .int x3), (4, .int x4), (5, .int x5), (6, .int x6), (7, .int x7)]) (Kr : ∀ r9, out = .inr r9 → r9 = S') (Kh0 : ∀ (y0 : Nat) (y1 : Int32) (y2 : Int32) (S2 : MS), out = .inl (.inl (y0, y1, y2, S2)) → ∀ (H1 : Heap) (locs1 : List Loc) (ls1 : Array Slot), ST D cy ad A s.heap (ZN n0 s.heap.size) S2 H1 locs1 → lv_has ls1 9 [(0, .ref (ad y0)), (1, .int y1), (2, .int y2)] → W p l e rmX10_findJoining s m args below meth c H1 locs1 0 0 (MQ below (QcM D cy ad A n0 S' (none)) args s 0 0 A) (F0 m 4 ls1 [])) (Kh1 : ∀ (y0 : Nat) (y1 : Int32) (y2 : Int32) (S2 : MS), out = .inl (.inr (.inl (y0, y1, y2, S2))) → ∀ (H1 : Heap) (locs1 : List Loc) (ls1 : Array Slot), ST D cy ad A s.heap (ZN n0 s.heap.size) S2 H1 locs1 → lv_has ls1 9 [(0, .ref (ad y0)), (1, .int y1), (2, .int y2)] → W p l e rmX10_findJoining s m args below meth c H1 locs1 0 0 (MQ below (QcM D cy ad A n0 S' (none)) args s 0 0 A) (F0 m 40 ls1 [])) (Kh2 : ∀ (y0 : Nat) (y1 : Int32) (y2 : Int32) (y3 : Int32) (y4 : Int32) (y5 : Int32) (y6 : Int32) (y7 : Int32) (S2 : MS), out = .inl (.inr (.inr (y0, y1, y2, y3, y4, y5, y6, y7, S2))) → ∀ (H1 : Heap) (locs1 : List Loc) (ls1 : Array Slot), ST D cy ad A s.heap (ZN n0 s.heap.size) S2 H1 locs1 → lv_has ls1 9 [(0, .ref (ad y0)), (1, .int y1), (2, .int y2), (3, .int y3), (4, .int y4), (5, .int y5), (6, .int y6), (7, .int y7)] → W p l e rmX10_findJoining s m args below meth c H1 locs1 0 0 (MQ below (QcM D cy ad A n0 S' (none)) args s 0 0 A) (F0 m 74 ls1 [])) : W p l e rmX10_findJoining s m args below meth c H locs 0 0 (MQ below (QcM D cy ad A n0 S' (none)) args s 0 0 A) (F0 m 74 ls []) := by
  unfold bX10_findJoining_74 at hF
  obtain ⟨hx, hb, -, hown, -, hts, -⟩ := id C0
  refine lv_iload hx hb dX10_findJoining_74 (lv_at hl 7 rfl) ?_
  refine lv_aload_n hx hb dX10_findJoining_76 rfl (lv_at hl 0 rfl) ?_
  obtain ⟨v77, hv, hF⟩ := ob hF
  refine k_getP C0 M.1 hv fl_X10_68 dX10_findJoining_77 ?_
  refine lv_iconst (v := (0 : Int32)) hx hb dX10_findJoining_80 (by decide) ?_
  obtain ⟨v81, hv, hF⟩ := ob hF
  refine k_ld C0 M.1 hv dX10_findJoining_81 ?_
  refine lv_icmp_ge (tgt := 166) hx hb dX10_findJoining_82 (by decide) (fun hc => ?_) (fun hc => ?_)
  · have hF := oi_t hc hF
    refine lv_iload hx hb dX10_findJoining_166 (lv_at hl 6 rfl) ?_
    refine lv_aload_n hx hb dX10_findJoining_168 rfl (lv_at hl 0 rfl) ?_
    obtain ⟨v169, hv, hF⟩ := ob hF
    refine k_getI C0 M.1 hv fl_X10_346 dX10_findJoining_169 ?_
    refine lv_icmp_ge (tgt := 187) hx hb dX10_findJoining_172 (by decide) (fun hc => ?_) (fun hc => ?_)
    · have hF := oi_t hc hF
      exact wX10_findJoining_187 ad A C0 M hr hF (lv_sub hl [0, 1, 2] rfl) Kr Kh0 Kh1 Kh2
    · have hF := oi_f hc hF
      refine lv_aload_n hx hb dX10_findJoining_175 rfl (lv_at hl 0 rfl) ?_
      refine lv_iload hx hb dX10_findJoining_176 (lv_at hl 6 rfl) ?_
      obtain ⟨S178, hv, hF⟩ := ob hF
      refine k_sI C0 M hv fl_X10_346 dX10_findJoining_178 (fun H locs M => ?_)
      refine lv_aload_n hx hb dX10_findJoining_181 rfl (lv_at hl 0 rfl) ?_
      refine lv_iload_n hx hb dX10_findJoining_182 rfl (lv_at hl 2 rfl) ?_
      refine lv_iload_n hx hb dX10_findJoining_183 rfl (lv_at hl 1 rfl) ?_
      obtain ⟨_, hrec, hF⟩ := ob hF
      obtain ⟨S184, hcl, hF⟩ := ob hF
      refine go_MV (r_V (rest := []) (As := [.int x2, .int x1]) C0 cb_X10_352 M.1 hrec (tX10_keepRow l D cy ad A hcl) (pre_R C0 M.1) hl dX10_findJoining_184 rfl (Nat.le_of_ble_eq_true rfl) ⟨rfl, rfl⟩ ⟨Nat.le_of_ble_eq_true rfl, Nat.le_of_ble_eq_true rfl⟩ ⟨Nat.le_of_ble_eq_true rfl, Nat.le_of_ble_eq_true rfl⟩ rfl) M (fun H locs M => ?_)
      exact wX10_findJoining_187 ad A C0 M hr hF (lv_sub hl [0, 1, 2] rfl) Kr Kh0 Kh1 Kh2
  · have hF := oi_f hc hF
    refine lv_iload_n hx hb dX10_findJoining_85 rfl (lv_at hl 3 rfl) ?_
    refine lv_aload_n hx hb dX10_findJoining_86 rfl (lv_at hl 0 rfl) ?_
    obtain ⟨v87, hv, hF⟩ := ob hF
    refine k_getP C0 M.1 hv fl_X10_68 dX10_findJoining_87 ?_
    refine lv_iconst (v := (1 : Int32)) hx hb dX10_findJoining_90 (by decide) ?_
    obtain ⟨v91, hv, hF⟩ := ob hF
    refine k_ld C0 M.1 hv dX10_findJoining_91 ?_
    refine lv_iconst (v := (1 : Int32)) hx hb dX10_findJoining_92 (by decide) ?_
    refine lv_iadd hx hb dX10_findJoining_93 ?_
    obtain ⟨w94, hv, hF⟩ := ob hF
    refine lv_idiv hx hb dX10_findJoining_94 (o_nz_ne hv) ?_
    obtain ⟨v95, hv, hF⟩ := ob hF
    have hv := vtI hv
    refine vtopi hv ?_
    refine lv_istore_n (lv' := [(3, .int v95), (0, .ref (ad x0)), (1, .int x1), (2, .int x2), (4, .int x4), (5, .int x5), (6, .int x6), (7, .int x7)]) hx hb dX10_findJoining_95 rfl hl (by decide) rfl (fun ls hl => ?_)
    refine lv_iload hx hb dX10_findJoining_96 (lv_at hl 4 rfl) ?_
    refine lv_iload_n hx hb dX10_findJoining_98 rfl (lv_at hl 0 rfl) ?_
    obtain ⟨w99, hv, hF⟩ := ob hF
    refine lv_idiv hx hb dX10_findJoining_99 (o_nz_ne hv) ?_
    obtain ⟨v100, hv, hF⟩ := ob hF
    have hv := vtI hv
    refine vtopi hv ?_
    refine lv_istore (lv' := [(8, .int v100), (3, .int v95), (0, .ref (ad x0)), (1, .int x1), (2, .int x2), (4, .int x4), (5, .int x5), (6, .int x6), (7, .int x7)]) hx hb dX10_findJoining_100 hl (by decide) rfl (fun ls hl => ?_)
    refine lv_iload hx hb dX10_findJoining_102 (lv_at hl 5 rfl) ?_
    refine lv_iload_n hx hb dX10_findJoining_104 rfl (lv_at hl 1 rfl) ?_
    obtain ⟨w105, hv, hF⟩ := ob hF
    refine lv_irem hx hb dX10_findJoining_105 (o_nz_ne hv) ?_
    obtain ⟨v106, hv, hF⟩ := ob hF
    have hv := vtI hv
    refine vtopi hv ?_
    refine lv_istore (lv' := [(4, .int v106), (8, .int v100), (3, .int v95), (0, .ref (ad x0)), (1, .int x1), (2, .int x2), (5, .int x5), (6, .int x6), (7, .int x7)]) hx hb dX10_findJoining_106 hl (by decide) rfl (fun ls hl => ?_)
    refine lv_iload hx hb dX10_findJoining_108 (lv_at hl 1 rfl) ?_
    refine lv_aload_n hx hb dX10_findJoining_110 rfl (lv_at hl 3 rfl) ?_
    obtain ⟨v111, hv, hF⟩ := ob hF
    refine k_getP C0 M.1 hv fl_X10_68 dX10_findJoining_111 ?_
    refine lv_iconst (v := (1 : Int32)) hx hb dX10_findJoining_114 (by decide) ?_
    obtain ⟨v115, hv, hF⟩ := ob hF
    refine k_ld C0 M.1 hv dX10_findJoining_115 ?_
    refine lv_icmp_ge (tgt := 160) hx hb dX10_findJoining_116 (by decide) (fun hc => ?_) (fun hc => ?_)
    · have hF := oi_t hc hF
      exact wX10_findJoining_160 ad A C0 M hr hF (lv_sub hl [3, 4, 5, 2, 0, 6, 7, 8] rfl) Kr Kh0 Kh1 Kh2
    · have hF := oi_f hc hF
      refine lv_iload hx hb dX10_findJoining_119 (lv_at hl 7 rfl) ?_
      refine lv_iload hx hb dX10_findJoining_121 (lv_at hl 6 rfl) ?_
      refine lv_iload hx hb dX10_findJoining_123 (lv_at hl 1 rfl) ?_
      obtain ⟨v125, hcl, hF⟩ := ob hF
      refine go_SI (r_S (rest := [.int x6]) (As := [.int x5, .int v100]) C0 cb_X10_245 (tX10_hasBit l D cy ad hcl) (pre_S C0) hl dX10_findJoining_125 rfl (Nat.le_of_ble_eq_true rfl) ⟨rfl, rfl⟩ ⟨Nat.le_of_ble_eq_true rfl, Nat.le_of_ble_eq_true rfl⟩ ⟨Nat.le_of_ble_eq_true rfl, Nat.le_of_ble_eq_true rfl⟩ rfl) ?_
      refine lv_if_eq (tgt := 137) hx hb dX10_findJoining_128 (by decide) (fun hc => ?_) (fun hc => ?_)
      · have hF := oi_t hc hF
        refine lv_aload_n hx hb dX10_findJoining_137 rfl (lv_at hl 3 rfl) ?_
        refine lv_iload hx hb dX10_findJoining_138 (lv_at hl 8 rfl) ?_
        refine lv_iload hx hb dX10_findJoining_140 (lv_at hl 1 rfl) ?_
        obtain ⟨_, hrec, hF⟩ := ob hF
        obtain ⟨v142, hcl, hF⟩ := ob hF
        refine go_SI (r_V (rest := [.int x6]) (As := [.int x7, .int v100]) C0 cb_X10_349 M.1 hrec (tX10_costOf l D cy ad A hcl) (pre_R C0 M.1) hl dX10_findJoining_142 rfl (Nat.le_of_ble_eq_true rfl) ⟨rfl, rfl⟩ ⟨Nat.le_of_ble_eq_true rfl, Nat.le_of_ble_eq_true rfl⟩ ⟨Nat.le_of_ble_eq_true rfl, Nat.le_of_ble_eq_true rfl⟩ rfl) ?_
        refine lv_bipush (v := (30 : Int32)) hx hb dX10_findJoining_145 (by decide) ?_
        refine lv_isub hx hb dX10_findJoining_147 ?_
        exact wX10_findJoining_148 ad A C0 M hr hF (lv_sub hl [3, 4, 5, 2, 0, 6, 8, 1] rfl) Kr Kh0 Kh1 Kh2
      · have hF := oi_f hc hF
        refine lv_ldcw (v := (1000000 : Int32)) hx hb hown (hts _ (uw_of 1483 (by decide +kernel) rfl)) dX10_findJoining_131 ?_
        refine lv_goto (tgt := 148) hx hb dX10_findJoining_134 (by decide) ?_
        exact wX10_findJoining_148 ad A C0 M hr hF (lv_sub hl [3, 4, 5, 2, 0, 6, 8, 1] rfl) Kr Kh0 Kh1 Kh2
set_option maxHeartbeats 4000000 in
set_option maxRecDepth 100000 in
theorem tX10_findJoining (l : Launch) (D : va_G) (cy : Nat → ClassId) (ad : Nat → Nat) (A : Nat → Prop) {S S' : MS} {a0 : Nat} (h : fX10_findJoining S a0 = some S') : Met l yX10_findJoining [Cond.code yX10_findJoining cX10_findJoining 9 (none)] rmX10_findJoining (PcR D cy ad A S [.ref (ad a0)]) (QcM D cy ad A (m_n S) S' (none)) 0 0 A := by
  refine met_M (by decide +kernel) cw_X10_findJoining (Nat.le_of_ble_eq_true rfl) ?_
  intro p e s m args below meth c ls C0 M hr hin hl
  have hl : lv_has ls 9 [(0, .ref (ad a0))] := hl
  have key := lim_walk (step := sX10_findJoining) (fun (q : ((Nat × Int32 × Int32 × MS) ⊕ ((Nat × Int32 × Int32 × MS) ⊕ (Nat × Int32 × Int32 × Int32 × Int32 × Int32 × Int32 × Int32 × MS)))) (r9 : MS) => ∀ (S' : MS), r9 = S' → ((∀ (y0 : Nat) (y1 : Int32) (y2 : Int32) (S2 : MS), q = (.inl (y0, y1, y2, S2)) → ∀ (H1 : Heap) (locs1 : List Loc) (ls1 : Array Slot), ST D cy ad A s.heap (ZN (m_n S) s.heap.size) S2 H1 locs1 → lv_has ls1 9 [(0, .ref (ad y0)), (1, .int y1), (2, .int y2)] → W p l e rmX10_findJoining s m args below meth c H1 locs1 0 0 (MQ below (QcM D cy ad A (m_n S) S' (none)) args s 0 0 A) (F0 m 4 ls1 [])) ∧ (∀ (y0 : Nat) (y1 : Int32) (y2 : Int32) (S2 : MS), q = (.inr (.inl (y0, y1, y2, S2))) → ∀ (H1 : Heap) (locs1 : List Loc) (ls1 : Array Slot), ST D cy ad A s.heap (ZN (m_n S) s.heap.size) S2 H1 locs1 → lv_has ls1 9 [(0, .ref (ad y0)), (1, .int y1), (2, .int y2)] → W p l e rmX10_findJoining s m args below meth c H1 locs1 0 0 (MQ below (QcM D cy ad A (m_n S) S' (none)) args s 0 0 A) (F0 m 40 ls1 [])) ∧ (∀ (y0 : Nat) (y1 : Int32) (y2 : Int32) (y3 : Int32) (y4 : Int32) (y5 : Int32) (y6 : Int32) (y7 : Int32) (S2 : MS), q = (.inr (.inr (y0, y1, y2, y3, y4, y5, y6, y7, S2))) → ∀ (H1 : Heap) (locs1 : List Loc) (ls1 : Array Slot), ST D cy ad A s.heap (ZN (m_n S) s.heap.size) S2 H1 locs1 → lv_has ls1 9 [(0, .ref (ad y0)), (1, .int y1), (2, .int y2), (3, .int y3), (4, .int y4), (5, .int y5), (6, .int y6), (7, .int y7)] → W p l e rmX10_findJoining s m args below meth c H1 locs1 0 0 (MQ below (QcM D cy ad A (m_n S) S' (none)) args s 0 0 A) (F0 m 74 ls1 [])))) ?_
  · unfold fX10_findJoining at h
    cases hs0 : bX10_findJoining_0 S a0 with
    | none => rw [hs0] at h; cases h
    | some out =>
      rw [hs0] at h
      refine wX10_findJoining_0 ad A C0 M hr hs0 hl (fun r9 hr9 => ?_) ?_ ?_ ?_
      · subst hr9; exact Option.some.inj h
      · intro y0 y1 y2 y3 hq; subst hq; exact (key _ _ h _ rfl).1 _ _ _ _ rfl
      · intro y0 y1 y2 y3 hq; subst hq; exact (key _ _ h _ rfl).2.1 _ _ _ _ rfl
      · intro y0 y1 y2 y3 y4 y5 y6 y7 y8 hq; subst hq; exact (key _ _ h _ rfl).2.2 _ _ _ _ _ _ _ _ _ rfl
  · intro q r9 out hst hre hin9
    intro S' er; subst er
    refine ⟨?_, ?_, ?_⟩
    · intro y0 y1 y2 y3 hq H1 locs1 ls1 M hl
      subst hq
      exact wX10_findJoining_4 ad A C0 M hr hst hl hre (fun k0 k1 k2 k3 hk => (hin9 _ hk _ rfl).1 _ _ _ _ rfl) (fun k0 k1 k2 k3 hk => (hin9 _ hk _ rfl).2.1 _ _ _ _ rfl) (fun k0 k1 k2 k3 k4 k5 k6 k7 k8 hk => (hin9 _ hk _ rfl).2.2 _ _ _ _ _ _ _ _ _ rfl)
    · intro y0 y1 y2 y3 hq H1 locs1 ls1 M hl
      subst hq
      exact wX10_findJoining_40 ad A C0 M hr hst hl hre (fun k0 k1 k2 k3 hk => (hin9 _ hk _ rfl).1 _ _ _ _ rfl) (fun k0 k1 k2 k3 hk => (hin9 _ hk _ rfl).2.1 _ _ _ _ rfl) (fun k0 k1 k2 k3 k4 k5 k6 k7 k8 hk => (hin9 _ hk _ rfl).2.2 _ _ _ _ _ _ _ _ _ rfl)
    · intro y0 y1 y2 y3 y4 y5 y6 y7 y8 hq H1 locs1 ls1 M hl
      subst hq
      exact wX10_findJoining_74 ad A C0 M hr hst hl hre (fun k0 k1 k2 k3 hk => (hin9 _ hk _ rfl).1 _ _ _ _ rfl) (fun k0 k1 k2 k3 hk => (hin9 _ hk _ rfl).2.1 _ _ _ _ rfl) (fun k0 k1 k2 k3 k4 k5 k6 k7 k8 hk => (hin9 _ hk _ rfl).2.2 _ _ _ _ _ _ _ _ _ rfl)
set_option maxHeartbeats 4000000 in
set_option maxRecDepth 100000 in
theorem wX10_regionOf_51 {p : Program} {l : Launch} {e : Env} {s : State} {m : MethodId} {args : Array Value} {below : List Frame} {meth : Method} {c : Code} {D : va_G} {cy : Nat → ClassId} (ad : Nat → Nat) (A : Nat → Prop) {r : Int32} {ls : Array Slot} {z0 : Int32} (C0 : CX p s m args meth c RX10 cX10_regionOf 1 D cy) (hr : meth.sig.returnType = some .int) (hF : bX10_regionOf_51 z0 = some r) (hl : lv_has ls 1 []) : W p l e rmX10_regionOf s m args below meth c s.heap [] 0 0 (MQ below (QcS (some (.int r))) args s 0 0 (fun _ => False)) (F0 m 51 ls [.int z0]) := by
  unfold bX10_regionOf_51 at hF
  obtain ⟨hx, hb, -, hown, -, hts, -⟩ := id C0
  obtain rfl := (Option.some.inj hF)
  exact rt_SI C0 hr dX10_regionOf_51
set_option maxHeartbeats 4000000 in
set_option maxRecDepth 100000 in
theorem wX10_regionOf_0 {p : Program} {l : Launch} {e : Env} {s : State} {m : MethodId} {args : Array Value} {below : List Frame} {meth : Method} {c : Code} {D : va_G} {cy : Nat → ClassId} (ad : Nat → Nat) (A : Nat → Prop) {r : Int32} {ls : Array Slot} {x0 : Int32} (C0 : CX p s m args meth c RX10 cX10_regionOf 1 D cy) (hr : meth.sig.returnType = some .int) (hF : bX10_regionOf_0 x0 = some r) (hl : lv_has ls 1 [(0, .int x0)]) : W p l e rmX10_regionOf s m args below meth c s.heap [] 0 0 (MQ below (QcS (some (.int r))) args s 0 0 (fun _ => False)) (F0 m 0 ls []) := by
  unfold bX10_regionOf_0 at hF
  obtain ⟨hx, hb, -, hown, -, hts, -⟩ := id C0
  refine lv_iload_n hx hb dX10_regionOf_0 rfl (lv_at hl 0 rfl) ?_
  refine lv_bipush (v := (110 : Int32)) hx hb dX10_regionOf_1 (by decide) ?_
  refine lv_icmp_ne (tgt := 10) hx hb dX10_regionOf_3 (by decide) (fun hc => ?_) (fun hc => ?_)
  · have hF := oi_f hc hF
    refine lv_iload_n hx hb dX10_regionOf_10 rfl (lv_at hl 0 rfl) ?_
    refine lv_bipush (v := (115 : Int32)) hx hb dX10_regionOf_11 (by decide) ?_
    refine lv_icmp_ne (tgt := 20) hx hb dX10_regionOf_13 (by decide) (fun hc => ?_) (fun hc => ?_)
    · have hF := oi_f hc hF
      refine lv_iload_n hx hb dX10_regionOf_20 rfl (lv_at hl 0 rfl) ?_
      refine lv_bipush (v := (119 : Int32)) hx hb dX10_regionOf_21 (by decide) ?_
      refine lv_icmp_ne (tgt := 30) hx hb dX10_regionOf_23 (by decide) (fun hc => ?_) (fun hc => ?_)
      · have hF := oi_f hc hF
        refine lv_iload_n hx hb dX10_regionOf_30 rfl (lv_at hl 0 rfl) ?_
        refine lv_bipush (v := (101 : Int32)) hx hb dX10_regionOf_31 (by decide) ?_
        refine lv_icmp_ne (tgt := 40) hx hb dX10_regionOf_33 (by decide) (fun hc => ?_) (fun hc => ?_)
        · have hF := oi_f hc hF
          refine lv_iload_n hx hb dX10_regionOf_40 rfl (lv_at hl 0 rfl) ?_
          refine lv_bipush (v := (109 : Int32)) hx hb dX10_regionOf_41 (by decide) ?_
          refine lv_icmp_ne (tgt := 50) hx hb dX10_regionOf_43 (by decide) (fun hc => ?_) (fun hc => ?_)
          · have hF := oi_f hc hF
            refine lv_iconst (v := (-1 : Int32)) hx hb dX10_regionOf_50 (by decide) ?_
            exact wX10_regionOf_51 ad A C0 hr hF (lv_sub hl [] rfl)
          · have hF := oi_t hc hF
            refine lv_iconst (v := (4 : Int32)) hx hb dX10_regionOf_46 (by decide) ?_
            refine lv_goto (tgt := 51) hx hb dX10_regionOf_47 (by decide) ?_
            exact wX10_regionOf_51 ad A C0 hr hF (lv_sub hl [] rfl)
        · have hF := oi_t hc hF
          refine lv_iconst (v := (3 : Int32)) hx hb dX10_regionOf_36 (by decide) ?_
          refine lv_goto (tgt := 51) hx hb dX10_regionOf_37 (by decide) ?_
          exact wX10_regionOf_51 ad A C0 hr hF (lv_sub hl [] rfl)
      · have hF := oi_t hc hF
        refine lv_iconst (v := (2 : Int32)) hx hb dX10_regionOf_26 (by decide) ?_
        refine lv_goto (tgt := 51) hx hb dX10_regionOf_27 (by decide) ?_
        exact wX10_regionOf_51 ad A C0 hr hF (lv_sub hl [] rfl)
    · have hF := oi_t hc hF
      refine lv_iconst (v := (1 : Int32)) hx hb dX10_regionOf_16 (by decide) ?_
      refine lv_goto (tgt := 51) hx hb dX10_regionOf_17 (by decide) ?_
      exact wX10_regionOf_51 ad A C0 hr hF (lv_sub hl [] rfl)
  · have hF := oi_t hc hF
    refine lv_iconst (v := (0 : Int32)) hx hb dX10_regionOf_6 (by decide) ?_
    refine lv_goto (tgt := 51) hx hb dX10_regionOf_7 (by decide) ?_
    exact wX10_regionOf_51 ad A C0 hr hF (lv_sub hl [] rfl)
set_option maxHeartbeats 4000000 in
set_option maxRecDepth 100000 in
theorem tX10_regionOf (l : Launch) (D : va_G) (cy : Nat → ClassId) (ad : Nat → Nat) {a0 : Int32} {r : Int32} (h : fX10_regionOf a0 = some r) : Met l yX10_regionOf [Cond.code yX10_regionOf cX10_regionOf 1 (some .int)] rmX10_regionOf (PcS D cy [.int a0]) (QcS (some (.int r))) 0 0 (fun _ => False) := by
  refine met_S (by decide +kernel) cw_X10_regionOf (Nat.le_of_ble_eq_true rfl) ?_
  intro p e s m args below meth c ls C0 hr hl
  have hl : lv_has ls 1 [(0, .int a0)] := hl
  exact wX10_regionOf_0 ad (fun _ => False) C0 hr h hl
set_option maxHeartbeats 4000000 in
set_option maxRecDepth 100000 in
theorem wX10_read_0 {p : Program} {l : Launch} {e : Env} {s : State} {m : MethodId} {args : Array Value} {below : List Frame} {meth : Method} {c : Code} {D : va_G} {cy : Nat → ClassId} (ad : Nat → Nat) (A : Nat → Prop) {S : MS} {S' : MS} {H : Heap} {locs : List Loc} {n0 : Nat} {r : Int32} {out : ((Nat × Int32 × Int32 × Int32 × Int32 × MS) ⊕ (Int32 × MS))} {ls : Array Slot} {x0 : Nat} {x1 : Int32} {x2 : Int32} (C0 : CX p s m args meth c RX10 cX10_read 7 D cy) (M : ST D cy ad A s.heap (ZN n0 s.heap.size) S H locs) (hr : meth.sig.returnType = some .int) (hF : bX10_read_0 S x0 x1 x2 = some out) (hl : lv_has ls 7 [(0, .ref (ad x0)), (1, .int x1), (2, .int x2)]) (Kr : ∀ r9, out = .inr r9 → r9 = (r, S')) (Kh0 : ∀ (y0 : Nat) (y1 : Int32) (y2 : Int32) (y3 : Int32) (y4 : Int32) (S2 : MS), out = .inl (y0, y1, y2, y3, y4, S2) → ∀ (H1 : Heap) (locs1 : List Loc) (ls1 : Array Slot), ST D cy ad A s.heap (ZN n0 s.heap.size) S2 H1 locs1 → lv_has ls1 7 [(0, .ref (ad y0)), (1, .int y1), (2, .int y2), (3, .int y3), (4, .int y4)] → W p l e rmX10_read s m args below meth c H1 locs1 0 0 (MQ below (QcM D cy ad A n0 S' (some (.int r))) args s 0 0 A) (F0 m 10 ls1 [])) : W p l e rmX10_read s m args below meth c H locs 0 0 (MQ below (QcM D cy ad A n0 S' (some (.int r))) args s 0 0 A) (F0 m 0 ls []) := by
  unfold bX10_read_0 at hF
  obtain ⟨hx, hb, -, hown, -, hts, -⟩ := id C0
  refine lv_aload_n hx hb dX10_read_0 rfl (lv_at hl 0 rfl) ?_
  refine lv_iconst (v := (0 : Int32)) hx hb dX10_read_1 (by decide) ?_
  obtain ⟨S2, hv, hF⟩ := ob hF
  refine k_sI C0 M hv fl_X10_386 dX10_read_2 (fun H locs M => ?_)
  refine lv_iconst (v := (0 : Int32)) hx hb dX10_read_5 (by decide) ?_
  refine lv_istore_n (lv' := [(3, .int (0 : Int32)), (0, .ref (ad x0)), (1, .int x1), (2, .int x2)]) hx hb dX10_read_6 rfl hl (by decide) rfl (fun ls hl => ?_)
  refine lv_iconst (v := (0 : Int32)) hx hb dX10_read_7 (by decide) ?_
  refine lv_istore (lv' := [(4, .int (0 : Int32)), (3, .int (0 : Int32)), (0, .ref (ad x0)), (1, .int x1), (2, .int x2)]) hx hb dX10_read_8 hl (by decide) rfl (fun ls hl => ?_)
  exact Kh0 _ _ _ _ _ _ (Option.some.inj hF).symm _ _ _ M (lv_sub hl [2, 3, 4, 1, 0] rfl)
set_option maxHeartbeats 4000000 in
set_option maxRecDepth 100000 in
theorem wX10_read_214 {p : Program} {l : Launch} {e : Env} {s : State} {m : MethodId} {args : Array Value} {below : List Frame} {meth : Method} {c : Code} {D : va_G} {cy : Nat → ClassId} (ad : Nat → Nat) (A : Nat → Prop) {S : MS} {S' : MS} {H : Heap} {locs : List Loc} {n0 : Nat} {r : Int32} {out : ((Nat × Int32 × Int32 × Int32 × Int32 × MS) ⊕ (Int32 × MS))} {ls : Array Slot} {x0 : Nat} {x1 : Int32} {x2 : Int32} {x3 : Int32} {x4 : Int32} (C0 : CX p s m args meth c RX10 cX10_read 7 D cy) (M : ST D cy ad A s.heap (ZN n0 s.heap.size) S H locs) (hr : meth.sig.returnType = some .int) (hF : bX10_read_214 S x0 x1 x2 x3 x4 = some out) (hl : lv_has ls 7 [(0, .ref (ad x0)), (1, .int x1), (2, .int x2), (3, .int x3), (4, .int x4)]) (Kr : ∀ r9, out = .inr r9 → r9 = (r, S')) (Kh0 : ∀ (y0 : Nat) (y1 : Int32) (y2 : Int32) (y3 : Int32) (y4 : Int32) (S2 : MS), out = .inl (y0, y1, y2, y3, y4, S2) → ∀ (H1 : Heap) (locs1 : List Loc) (ls1 : Array Slot), ST D cy ad A s.heap (ZN n0 s.heap.size) S2 H1 locs1 → lv_has ls1 7 [(0, .ref (ad y0)), (1, .int y1), (2, .int y2), (3, .int y3), (4, .int y4)] → W p l e rmX10_read s m args below meth c H1 locs1 0 0 (MQ below (QcM D cy ad A n0 S' (some (.int r))) args s 0 0 A) (F0 m 10 ls1 [])) : W p l e rmX10_read s m args below meth c H locs 0 0 (MQ below (QcM D cy ad A n0 S' (some (.int r))) args s 0 0 A) (F0 m 214 ls []) := by
  unfold bX10_read_214 at hF
  obtain ⟨hx, hb, -, hown, -, hts, -⟩ := id C0
  obtain ⟨v214, hv, hF⟩ := ob hF
  refine lv_iinc (v := v214) (lv' := [(4, .int v214), (0, .ref (ad x0)), (1, .int x1), (2, .int x2), (3, .int x3)]) hx hb dX10_read_214 hl (k := 4) rfl (by rw [← vtI hv]; rfl) (by decide) rfl (fun ls hl => ?_)
  refine lv_goto (tgt := 10) hx hb dX10_read_217 (by decide) ?_
  exact Kh0 _ _ _ _ _ _ (Option.some.inj hF).symm _ _ _ M (lv_sub hl [1, 2, 3, 4, 0] rfl)
set_option maxHeartbeats 4000000 in
set_option maxRecDepth 100000 in
theorem wX10_read_121 {p : Program} {l : Launch} {e : Env} {s : State} {m : MethodId} {args : Array Value} {below : List Frame} {meth : Method} {c : Code} {D : va_G} {cy : Nat → ClassId} (ad : Nat → Nat) (A : Nat → Prop) {S : MS} {S' : MS} {H : Heap} {locs : List Loc} {n0 : Nat} {r : Int32} {out : ((Nat × Int32 × Int32 × Int32 × Int32 × MS) ⊕ (Int32 × MS))} {ls : Array Slot} {x0 : Nat} {x1 : Int32} {x2 : Int32} {x4 : Int32} {z0 : Nat} {z1 : Int32} {z2 : Int32} (C0 : CX p s m args meth c RX10 cX10_read 7 D cy) (M : ST D cy ad A s.heap (ZN n0 s.heap.size) S H locs) (hr : meth.sig.returnType = some .int) (hF : bX10_read_121 S x0 x1 x2 x4 z0 z1 z2 = some out) (hl : lv_has ls 7 [(0, .ref (ad x0)), (1, .int x1), (2, .int x2), (4, .int x4)]) (Kr : ∀ r9, out = .inr r9 → r9 = (r, S')) (Kh0 : ∀ (y0 : Nat) (y1 : Int32) (y2 : Int32) (y3 : Int32) (y4 : Int32) (S2 : MS), out = .inl (y0, y1, y2, y3, y4, S2) → ∀ (H1 : Heap) (locs1 : List Loc) (ls1 : Array Slot), ST D cy ad A s.heap (ZN n0 s.heap.size) S2 H1 locs1 → lv_has ls1 7 [(0, .ref (ad y0)), (1, .int y1), (2, .int y2), (3, .int y3), (4, .int y4)] → W p l e rmX10_read s m args below meth c H1 locs1 0 0 (MQ below (QcM D cy ad A n0 S' (some (.int r))) args s 0 0 A) (F0 m 10 ls1 [])) : W p l e rmX10_read s m args below meth c H locs 0 0 (MQ below (QcM D cy ad A n0 S' (some (.int r))) args s 0 0 A) (F0 m 121 ls [.int z2, .int z1, .ref (ad z0)]) := by
  unfold bX10_read_121 at hF
  obtain ⟨hx, hb, -, hown, -, hts, -⟩ := id C0
  obtain ⟨z121, hz, hF⟩ := ob hF
  have hz2 := (o_if hz).2
  refine vtopi hz2 ?_
  rw [hz2] at hz
  obtain ⟨S121, hv, hF⟩ := ob hF
  refine k_stZ C0 M hz hv dX10_read_121 (fun H locs M => ?_)
  refine lv_iconst (v := (2 : Int32)) hx hb dX10_read_122 (by decide) ?_
  refine lv_istore_n (lv' := [(3, .int (2 : Int32)), (0, .ref (ad x0)), (1, .int x1), (2, .int x2), (4, .int x4)]) hx hb dX10_read_123 rfl hl (by decide) rfl (fun ls hl => ?_)
  refine lv_goto (tgt := 214) hx hb dX10_read_124 (by decide) ?_
  exact wX10_read_214 ad A C0 M hr hF (lv_sub hl [1, 2, 3, 0, 4] rfl) Kr Kh0
set_option maxHeartbeats 4000000 in
set_option maxRecDepth 100000 in
theorem wX10_read_101 {p : Program} {l : Launch} {e : Env} {s : State} {m : MethodId} {args : Array Value} {below : List Frame} {meth : Method} {c : Code} {D : va_G} {cy : Nat → ClassId} (ad : Nat → Nat) (A : Nat → Prop) {S : MS} {S' : MS} {H : Heap} {locs : List Loc} {n0 : Nat} {r : Int32} {out : ((Nat × Int32 × Int32 × Int32 × Int32 × MS) ⊕ (Int32 × MS))} {ls : Array Slot} {x0 : Nat} {x1 : Int32} {x2 : Int32} {x4 : Int32} {x5 : Int32} (C0 : CX p s m args meth c RX10 cX10_read 7 D cy) (M : ST D cy ad A s.heap (ZN n0 s.heap.size) S H locs) (hr : meth.sig.returnType = some .int) (hF : bX10_read_101 S x0 x1 x2 x4 x5 = some out) (hl : lv_has ls 7 [(0, .ref (ad x0)), (1, .int x1), (2, .int x2), (4, .int x4), (5, .int x5)]) (Kr : ∀ r9, out = .inr r9 → r9 = (r, S')) (Kh0 : ∀ (y0 : Nat) (y1 : Int32) (y2 : Int32) (y3 : Int32) (y4 : Int32) (S2 : MS), out = .inl (y0, y1, y2, y3, y4, S2) → ∀ (H1 : Heap) (locs1 : List Loc) (ls1 : Array Slot), ST D cy ad A s.heap (ZN n0 s.heap.size) S2 H1 locs1 → lv_has ls1 7 [(0, .ref (ad y0)), (1, .int y1), (2, .int y2), (3, .int y3), (4, .int y4)] → W p l e rmX10_read s m args below meth c H1 locs1 0 0 (MQ below (QcM D cy ad A n0 S' (some (.int r))) args s 0 0 A) (F0 m 10 ls1 [])) : W p l e rmX10_read s m args below meth c H locs 0 0 (MQ below (QcM D cy ad A n0 S' (some (.int r))) args s 0 0 A) (F0 m 101 ls []) := by
  unfold bX10_read_101 at hF
  obtain ⟨hx, hb, -, hown, -, hts, -⟩ := id C0
  refine lv_aload_n hx hb dX10_read_101 rfl (lv_at hl 0 rfl) ?_
  obtain ⟨v102, hv, hF⟩ := ob hF
  refine k_getP C0 M.1 hv fl_X10_119 dX10_read_102 ?_
  refine lv_aload_n hx hb dX10_read_105 rfl (lv_at hl 0 rfl) ?_
  obtain ⟨v106, hv, hF⟩ := ob hF
  refine k_getI C0 M.1 hv fl_X10_386 dX10_read_106 ?_
  refine lv_iload hx hb dX10_read_109 (lv_at hl 4 rfl) ?_
  refine lv_bipush (v := (62 : Int32)) hx hb dX10_read_111 (by decide) ?_
  refine lv_icmp_ne (tgt := 120) hx hb dX10_read_113 (by decide) (fun hc => ?_) (fun hc => ?_)
  · have hF := oi_f hc hF
    refine lv_iconst (v := (0 : Int32)) hx hb dX10_read_120 (by decide) ?_
    exact wX10_read_121 ad A C0 M hr hF (lv_sub hl [0, 1, 2, 3] rfl) Kr Kh0
  · have hF := oi_t hc hF
    refine lv_iconst (v := (1 : Int32)) hx hb dX10_read_116 (by decide) ?_
    refine lv_goto (tgt := 121) hx hb dX10_read_117 (by decide) ?_
    exact wX10_read_121 ad A C0 M hr hF (lv_sub hl [0, 1, 2, 3] rfl) Kr Kh0
set_option maxHeartbeats 4000000 in
set_option maxRecDepth 100000 in
theorem wX10_read_211 {p : Program} {l : Launch} {e : Env} {s : State} {m : MethodId} {args : Array Value} {below : List Frame} {meth : Method} {c : Code} {D : va_G} {cy : Nat → ClassId} (ad : Nat → Nat) (A : Nat → Prop) {S : MS} {S' : MS} {H : Heap} {locs : List Loc} {n0 : Nat} {r : Int32} {out : ((Nat × Int32 × Int32 × Int32 × Int32 × MS) ⊕ (Int32 × MS))} {ls : Array Slot} {x4 : Int32} (C0 : CX p s m args meth c RX10 cX10_read 7 D cy) (M : ST D cy ad A s.heap (ZN n0 s.heap.size) S H locs) (hr : meth.sig.returnType = some .int) (hF : bX10_read_211 S x4 = some out) (hl : lv_has ls 7 [(4, .int x4)]) (Kr : ∀ r9, out = .inr r9 → r9 = (r, S')) (Kh0 : ∀ (y0 : Nat) (y1 : Int32) (y2 : Int32) (y3 : Int32) (y4 : Int32) (S2 : MS), out = .inl (y0, y1, y2, y3, y4, S2) → ∀ (H1 : Heap) (locs1 : List Loc) (ls1 : Array Slot), ST D cy ad A s.heap (ZN n0 s.heap.size) S2 H1 locs1 → lv_has ls1 7 [(0, .ref (ad y0)), (1, .int y1), (2, .int y2), (3, .int y3), (4, .int y4)] → W p l e rmX10_read s m args below meth c H1 locs1 0 0 (MQ below (QcM D cy ad A n0 S' (some (.int r))) args s 0 0 A) (F0 m 10 ls1 [])) : W p l e rmX10_read s m args below meth c H locs 0 0 (MQ below (QcM D cy ad A n0 S' (some (.int r))) args s 0 0 A) (F0 m 211 ls []) := by
  unfold bX10_read_211 at hF
  obtain ⟨hx, hb, -, hown, -, hts, -⟩ := id C0
  refine lv_iload hx hb dX10_read_211 (lv_at hl 0 rfl) ?_
  obtain ⟨rfl, rfl⟩ := Prod.mk.inj (Kr _ (Option.some.inj hF).symm)
  exact rt_MI C0 M hr dX10_read_213
set_option maxHeartbeats 4000000 in
set_option maxRecDepth 100000 in
theorem wX10_read_176 {p : Program} {l : Launch} {e : Env} {s : State} {m : MethodId} {args : Array Value} {below : List Frame} {meth : Method} {c : Code} {D : va_G} {cy : Nat → ClassId} (ad : Nat → Nat) (A : Nat → Prop) {S : MS} {S' : MS} {H : Heap} {locs : List Loc} {n0 : Nat} {r : Int32} {out : ((Nat × Int32 × Int32 × Int32 × Int32 × MS) ⊕ (Int32 × MS))} {ls : Array Slot} {x0 : Nat} {x1 : Int32} {x2 : Int32} {x3 : Int32} {x4 : Int32} {x5 : Int32} (C0 : CX p s m args meth c RX10 cX10_read 7 D cy) (M : ST D cy ad A s.heap (ZN n0 s.heap.size) S H locs) (hr : meth.sig.returnType = some .int) (hF : bX10_read_176 S x0 x1 x2 x3 x4 x5 = some out) (hl : lv_has ls 7 [(0, .ref (ad x0)), (1, .int x1), (2, .int x2), (3, .int x3), (4, .int x4), (5, .int x5)]) (Kr : ∀ r9, out = .inr r9 → r9 = (r, S')) (Kh0 : ∀ (y0 : Nat) (y1 : Int32) (y2 : Int32) (y3 : Int32) (y4 : Int32) (S2 : MS), out = .inl (y0, y1, y2, y3, y4, S2) → ∀ (H1 : Heap) (locs1 : List Loc) (ls1 : Array Slot), ST D cy ad A s.heap (ZN n0 s.heap.size) S2 H1 locs1 → lv_has ls1 7 [(0, .ref (ad y0)), (1, .int y1), (2, .int y2), (3, .int y3), (4, .int y4)] → W p l e rmX10_read s m args below meth c H1 locs1 0 0 (MQ below (QcM D cy ad A n0 S' (some (.int r))) args s 0 0 A) (F0 m 10 ls1 [])) : W p l e rmX10_read s m args below meth c H locs 0 0 (MQ below (QcM D cy ad A n0 S' (some (.int r))) args s 0 0 A) (F0 m 176 ls []) := by
  unfold bX10_read_176 at hF
  obtain ⟨hx, hb, -, hown, -, hts, -⟩ := id C0
  refine lv_iload_n hx hb dX10_read_176 rfl (lv_at hl 3 rfl) ?_
  refine lv_iconst (v := (2 : Int32)) hx hb dX10_read_177 (by decide) ?_
  refine lv_icmp_le (tgt := 211) hx hb dX10_read_178 (by decide) (fun hc => ?_) (fun hc => ?_)
  · have hF := oi_t hc hF
    exact wX10_read_211 ad A C0 M hr hF (lv_sub hl [4] rfl) Kr Kh0
  · have hF := oi_f hc hF
    refine lv_iload hx hb dX10_read_181 (lv_at hl 5 rfl) ?_
    refine lv_bipush (v := (44 : Int32)) hx hb dX10_read_183 (by decide) ?_
    refine lv_icmp_ne (tgt := 211) hx hb dX10_read_185 (by decide) (fun hc => ?_) (fun hc => ?_)
    · have hF := oi_f hc hF
      exact wX10_read_211 ad A C0 M hr hF (lv_sub hl [4] rfl) Kr Kh0
    · have hF := oi_t hc hF
      refine lv_aload_n hx hb dX10_read_188 rfl (lv_at hl 0 rfl) ?_
      obtain ⟨v189, hv, hF⟩ := ob hF
      refine k_getI C0 M.1 hv fl_X10_386 dX10_read_189 ?_
      refine lv_iconst (v := (4 : Int32)) hx hb dX10_read_192 (by decide) ?_
      refine lv_icmp_ge (tgt := 211) hx hb dX10_read_193 (by decide) (fun hc => ?_) (fun hc => ?_)
      · have hF := oi_t hc hF
        exact wX10_read_211 ad A C0 M hr hF (lv_sub hl [4] rfl) Kr Kh0
      · have hF := oi_f hc hF
        refine lv_aload_n hx hb dX10_read_196 rfl (lv_at hl 0 rfl) ?_
        refine lv_dup hx hb dX10_read_197 rfl ?_
        obtain ⟨v198, hv, hF⟩ := ob hF
        refine k_getI C0 M.1 hv fl_X10_386 dX10_read_198 ?_
        refine lv_iconst (v := (1 : Int32)) hx hb dX10_read_201 (by decide) ?_
        refine lv_iadd hx hb dX10_read_202 ?_
        obtain ⟨S203, hv, hF⟩ := ob hF
        refine k_sI C0 M hv fl_X10_386 dX10_read_203 (fun H locs M => ?_)
        refine lv_iconst (v := (0 : Int32)) hx hb dX10_read_206 (by decide) ?_
        refine lv_istore_n (lv' := [(3, .int (0 : Int32)), (0, .ref (ad x0)), (1, .int x1), (2, .int x2), (4, .int x4), (5, .int x5)]) hx hb dX10_read_207 rfl hl (by decide) rfl (fun ls hl => ?_)
        refine lv_goto (tgt := 214) hx hb dX10_read_208 (by decide) ?_
        exact wX10_read_214 ad A C0 M hr hF (lv_sub hl [1, 2, 3, 0, 4] rfl) Kr Kh0
set_option maxHeartbeats 4000000 in
set_option maxRecDepth 100000 in
theorem wX10_read_127 {p : Program} {l : Launch} {e : Env} {s : State} {m : MethodId} {args : Array Value} {below : List Frame} {meth : Method} {c : Code} {D : va_G} {cy : Nat → ClassId} (ad : Nat → Nat) (A : Nat → Prop) {S : MS} {S' : MS} {H : Heap} {locs : List Loc} {n0 : Nat} {r : Int32} {out : ((Nat × Int32 × Int32 × Int32 × Int32 × MS) ⊕ (Int32 × MS))} {ls : Array Slot} {x0 : Nat} {x1 : Int32} {x2 : Int32} {x3 : Int32} {x4 : Int32} {x5 : Int32} {x6 : Int32} (C0 : CX p s m args meth c RX10 cX10_read 7 D cy) (M : ST D cy ad A s.heap (ZN n0 s.heap.size) S H locs) (hr : meth.sig.returnType = some .int) (hF : bX10_read_127 S x0 x1 x2 x3 x4 x5 x6 = some out) (hl : lv_has ls 7 [(0, .ref (ad x0)), (1, .int x1), (2, .int x2), (3, .int x3), (4, .int x4), (5, .int x5), (6, .int x6)]) (Kr : ∀ r9, out = .inr r9 → r9 = (r, S')) (Kh0 : ∀ (y0 : Nat) (y1 : Int32) (y2 : Int32) (y3 : Int32) (y4 : Int32) (S2 : MS), out = .inl (y0, y1, y2, y3, y4, S2) → ∀ (H1 : Heap) (locs1 : List Loc) (ls1 : Array Slot), ST D cy ad A s.heap (ZN n0 s.heap.size) S2 H1 locs1 → lv_has ls1 7 [(0, .ref (ad y0)), (1, .int y1), (2, .int y2), (3, .int y3), (4, .int y4)] → W p l e rmX10_read s m args below meth c H1 locs1 0 0 (MQ below (QcM D cy ad A n0 S' (some (.int r))) args s 0 0 A) (F0 m 10 ls1 [])) : W p l e rmX10_read s m args below meth c H locs 0 0 (MQ below (QcM D cy ad A n0 S' (some (.int r))) args s 0 0 A) (F0 m 127 ls []) := by
  unfold bX10_read_127 at hF
  obtain ⟨hx, hb, -, hown, -, hts, -⟩ := id C0
  refine lv_iload_n hx hb dX10_read_127 rfl (lv_at hl 3 rfl) ?_
  refine lv_iconst (v := (2 : Int32)) hx hb dX10_read_128 (by decide) ?_
  refine lv_icmp_lt (tgt := 176) hx hb dX10_read_129 (by decide) (fun hc => ?_) (fun hc => ?_)
  · have hF := oi_t hc hF
    exact wX10_read_176 ad A C0 M hr hF (lv_sub hl [0, 1, 2, 3, 4, 5] rfl) Kr Kh0
  · have hF := oi_f hc hF
    refine lv_iload_n hx hb dX10_read_132 rfl (lv_at hl 3 rfl) ?_
    refine lv_bipush (v := (7 : Int32)) hx hb dX10_read_133 (by decide) ?_
    refine lv_icmp_ge (tgt := 176) hx hb dX10_read_135 (by decide) (fun hc => ?_) (fun hc => ?_)
    · have hF := oi_t hc hF
      exact wX10_read_176 ad A C0 M hr hF (lv_sub hl [0, 1, 2, 3, 4, 5] rfl) Kr Kh0
    · have hF := oi_f hc hF
      refine lv_iload hx hb dX10_read_138 (lv_at hl 6 rfl) ?_
      refine lv_if_eq (tgt := 176) hx hb dX10_read_140 (by decide) (fun hc => ?_) (fun hc => ?_)
      · have hF := oi_t hc hF
        exact wX10_read_176 ad A C0 M hr hF (lv_sub hl [0, 1, 2, 3, 4, 5] rfl) Kr Kh0
      · have hF := oi_f hc hF
        refine lv_aload_n hx hb dX10_read_143 rfl (lv_at hl 0 rfl) ?_
        obtain ⟨v144, hv, hF⟩ := ob hF
        refine k_getP C0 M.1 hv fl_X10_122 dX10_read_144 ?_
        refine lv_aload_n hx hb dX10_read_147 rfl (lv_at hl 0 rfl) ?_
        obtain ⟨v148, hv, hF⟩ := ob hF
        refine k_getI C0 M.1 hv fl_X10_386 dX10_read_148 ?_
        refine lv_bipush (v := (10 : Int32)) hx hb dX10_read_151 (by decide) ?_
        refine lv_aload_n hx hb dX10_read_153 rfl (lv_at hl 0 rfl) ?_
        obtain ⟨v154, hv, hF⟩ := ob hF
        refine k_getP C0 M.1 hv fl_X10_122 dX10_read_154 ?_
        refine lv_aload_n hx hb dX10_read_157 rfl (lv_at hl 0 rfl) ?_
        obtain ⟨v158, hv, hF⟩ := ob hF
        refine k_getI C0 M.1 hv fl_X10_386 dX10_read_158 ?_
        obtain ⟨v161, hv, hF⟩ := ob hF
        refine k_ld C0 M.1 hv dX10_read_161 ?_
        refine lv_imul hx hb dX10_read_162 ?_
        refine lv_iload hx hb dX10_read_163 (lv_at hl 5 rfl) ?_
        refine lv_iadd hx hb dX10_read_165 ?_
        refine lv_bipush (v := (48 : Int32)) hx hb dX10_read_166 (by decide) ?_
        refine lv_isub hx hb dX10_read_168 ?_
        obtain ⟨S169, hv, hF⟩ := ob hF
        refine k_st C0 M hv dX10_read_169 (fun H locs M => ?_)
        obtain ⟨v170, hv, hF⟩ := ob hF
        refine lv_iinc (v := v170) (lv' := [(3, .int v170), (0, .ref (ad x0)), (1, .int x1), (2, .int x2), (4, .int x4), (5, .int x5), (6, .int x6)]) hx hb dX10_read_170 hl (k := 3) rfl (by rw [← vtI hv]; rfl) (by decide) rfl (fun ls hl => ?_)
        refine lv_goto (tgt := 214) hx hb dX10_read_173 (by decide) ?_
        exact wX10_read_214 ad A C0 M hr hF (lv_sub hl [1, 2, 3, 0, 4] rfl) Kr Kh0
set_option maxHeartbeats 4000000 in
set_option maxRecDepth 100000 in
theorem wX10_read_82 {p : Program} {l : Launch} {e : Env} {s : State} {m : MethodId} {args : Array Value} {below : List Frame} {meth : Method} {c : Code} {D : va_G} {cy : Nat → ClassId} (ad : Nat → Nat) (A : Nat → Prop) {S : MS} {S' : MS} {H : Heap} {locs : List Loc} {n0 : Nat} {r : Int32} {out : ((Nat × Int32 × Int32 × Int32 × Int32 × MS) ⊕ (Int32 × MS))} {ls : Array Slot} {x0 : Nat} {x1 : Int32} {x2 : Int32} {x3 : Int32} {x4 : Int32} {x5 : Int32} {x6 : Int32} (C0 : CX p s m args meth c RX10 cX10_read 7 D cy) (M : ST D cy ad A s.heap (ZN n0 s.heap.size) S H locs) (hr : meth.sig.returnType = some .int) (hF : bX10_read_82 S x0 x1 x2 x3 x4 x5 x6 = some out) (hl : lv_has ls 7 [(0, .ref (ad x0)), (1, .int x1), (2, .int x2), (3, .int x3), (4, .int x4), (5, .int x5), (6, .int x6)]) (Kr : ∀ r9, out = .inr r9 → r9 = (r, S')) (Kh0 : ∀ (y0 : Nat) (y1 : Int32) (y2 : Int32) (y3 : Int32) (y4 : Int32) (S2 : MS), out = .inl (y0, y1, y2, y3, y4, S2) → ∀ (H1 : Heap) (locs1 : List Loc) (ls1 : Array Slot), ST D cy ad A s.heap (ZN n0 s.heap.size) S2 H1 locs1 → lv_has ls1 7 [(0, .ref (ad y0)), (1, .int y1), (2, .int y2), (3, .int y3), (4, .int y4)] → W p l e rmX10_read s m args below meth c H1 locs1 0 0 (MQ below (QcM D cy ad A n0 S' (some (.int r))) args s 0 0 A) (F0 m 10 ls1 [])) : W p l e rmX10_read s m args below meth c H locs 0 0 (MQ below (QcM D cy ad A n0 S' (some (.int r))) args s 0 0 A) (F0 m 82 ls []) := by
  unfold bX10_read_82 at hF
  obtain ⟨hx, hb, -, hown, -, hts, -⟩ := id C0
  refine lv_iload_n hx hb dX10_read_82 rfl (lv_at hl 3 rfl) ?_
  refine lv_iconst (v := (1 : Int32)) hx hb dX10_read_83 (by decide) ?_
  refine lv_icmp_ne (tgt := 127) hx hb dX10_read_84 (by decide) (fun hc => ?_) (fun hc => ?_)
  · have hF := oi_f hc hF
    exact wX10_read_127 ad A C0 M hr hF (lv_sub hl [0, 1, 2, 3, 4, 5, 6] rfl) Kr Kh0
  · have hF := oi_t hc hF
    refine lv_iload hx hb dX10_read_87 (lv_at hl 5 rfl) ?_
    refine lv_bipush (v := (60 : Int32)) hx hb dX10_read_89 (by decide) ?_
    refine lv_icmp_eq (tgt := 101) hx hb dX10_read_91 (by decide) (fun hc => ?_) (fun hc => ?_)
    · have hF := oi_t hc hF
      exact wX10_read_101 ad A C0 M hr hF (lv_sub hl [0, 1, 2, 4, 5] rfl) Kr Kh0
    · have hF := oi_f hc hF
      refine lv_iload hx hb dX10_read_94 (lv_at hl 5 rfl) ?_
      refine lv_bipush (v := (62 : Int32)) hx hb dX10_read_96 (by decide) ?_
      refine lv_icmp_ne (tgt := 127) hx hb dX10_read_98 (by decide) (fun hc => ?_) (fun hc => ?_)
      · have hF := oi_f hc hF
        exact wX10_read_127 ad A C0 M hr hF (lv_sub hl [0, 1, 2, 3, 4, 5, 6] rfl) Kr Kh0
      · have hF := oi_t hc hF
        exact wX10_read_101 ad A C0 M hr hF (lv_sub hl [0, 1, 2, 4, 5] rfl) Kr Kh0
set_option maxHeartbeats 4000000 in
set_option maxRecDepth 100000 in
theorem wX10_read_240 {p : Program} {l : Launch} {e : Env} {s : State} {m : MethodId} {args : Array Value} {below : List Frame} {meth : Method} {c : Code} {D : va_G} {cy : Nat → ClassId} (ad : Nat → Nat) (A : Nat → Prop) {S : MS} {S' : MS} {H : Heap} {locs : List Loc} {n0 : Nat} {r : Int32} {out : ((Nat × Int32 × Int32 × Int32 × Int32 × MS) ⊕ (Int32 × MS))} {ls : Array Slot} {z0 : Int32} (C0 : CX p s m args meth c RX10 cX10_read 7 D cy) (M : ST D cy ad A s.heap (ZN n0 s.heap.size) S H locs) (hr : meth.sig.returnType = some .int) (hF : bX10_read_240 S z0 = some out) (hl : lv_has ls 7 []) (Kr : ∀ r9, out = .inr r9 → r9 = (r, S')) (Kh0 : ∀ (y0 : Nat) (y1 : Int32) (y2 : Int32) (y3 : Int32) (y4 : Int32) (S2 : MS), out = .inl (y0, y1, y2, y3, y4, S2) → ∀ (H1 : Heap) (locs1 : List Loc) (ls1 : Array Slot), ST D cy ad A s.heap (ZN n0 s.heap.size) S2 H1 locs1 → lv_has ls1 7 [(0, .ref (ad y0)), (1, .int y1), (2, .int y2), (3, .int y3), (4, .int y4)] → W p l e rmX10_read s m args below meth c H1 locs1 0 0 (MQ below (QcM D cy ad A n0 S' (some (.int r))) args s 0 0 A) (F0 m 10 ls1 [])) : W p l e rmX10_read s m args below meth c H locs 0 0 (MQ below (QcM D cy ad A n0 S' (some (.int r))) args s 0 0 A) (F0 m 240 ls [.int z0]) := by
  unfold bX10_read_240 at hF
  obtain ⟨hx, hb, -, hown, -, hts, -⟩ := id C0
  obtain ⟨rfl, rfl⟩ := Prod.mk.inj (Kr _ (Option.some.inj hF).symm)
  exact rt_MI C0 M hr dX10_read_240
set_option maxHeartbeats 4000000 in
set_option maxRecDepth 100000 in
theorem wX10_read_10 {p : Program} {l : Launch} {e : Env} {s : State} {m : MethodId} {args : Array Value} {below : List Frame} {meth : Method} {c : Code} {D : va_G} {cy : Nat → ClassId} (ad : Nat → Nat) (A : Nat → Prop) {S : MS} {S' : MS} {H : Heap} {locs : List Loc} {n0 : Nat} {r : Int32} {out : ((Nat × Int32 × Int32 × Int32 × Int32 × MS) ⊕ (Int32 × MS))} {ls : Array Slot} {x0 : Nat} {x1 : Int32} {x2 : Int32} {x3 : Int32} {x4 : Int32} (C0 : CX p s m args meth c RX10 cX10_read 7 D cy) (M : ST D cy ad A s.heap (ZN n0 s.heap.size) S H locs) (hr : meth.sig.returnType = some .int) (hF : bX10_read_10 S x0 x1 x2 x3 x4 = some out) (hl : lv_has ls 7 [(0, .ref (ad x0)), (1, .int x1), (2, .int x2), (3, .int x3), (4, .int x4)]) (Kr : ∀ r9, out = .inr r9 → r9 = (r, S')) (Kh0 : ∀ (y0 : Nat) (y1 : Int32) (y2 : Int32) (y3 : Int32) (y4 : Int32) (S2 : MS), out = .inl (y0, y1, y2, y3, y4, S2) → ∀ (H1 : Heap) (locs1 : List Loc) (ls1 : Array Slot), ST D cy ad A s.heap (ZN n0 s.heap.size) S2 H1 locs1 → lv_has ls1 7 [(0, .ref (ad y0)), (1, .int y1), (2, .int y2), (3, .int y3), (4, .int y4)] → W p l e rmX10_read s m args below meth c H1 locs1 0 0 (MQ below (QcM D cy ad A n0 S' (some (.int r))) args s 0 0 A) (F0 m 10 ls1 [])) : W p l e rmX10_read s m args below meth c H locs 0 0 (MQ below (QcM D cy ad A n0 S' (some (.int r))) args s 0 0 A) (F0 m 10 ls []) := by
  unfold bX10_read_10 at hF
  obtain ⟨hx, hb, -, hown, -, hts, -⟩ := id C0
  refine lv_iload hx hb dX10_read_10 (lv_at hl 4 rfl) ?_
  refine lv_iload_n hx hb dX10_read_12 rfl (lv_at hl 2 rfl) ?_
  refine lv_icmp_ge (tgt := 220) hx hb dX10_read_13 (by decide) (fun hc => ?_) (fun hc => ?_)
  · have hF := oi_t hc hF
    refine lv_aload_n hx hb dX10_read_220 rfl (lv_at hl 0 rfl) ?_
    refine lv_dup hx hb dX10_read_221 rfl ?_
    obtain ⟨v222, hv, hF⟩ := ob hF
    refine k_getI C0 M.1 hv fl_X10_386 dX10_read_222 ?_
    refine lv_iconst (v := (1 : Int32)) hx hb dX10_read_225 (by decide) ?_
    refine lv_iadd hx hb dX10_read_226 ?_
    obtain ⟨S227, hv, hF⟩ := ob hF
    refine k_sI C0 M hv fl_X10_386 dX10_read_227 (fun H locs M => ?_)
    refine lv_iload_n hx hb dX10_read_230 rfl (lv_at hl 3 rfl) ?_
    refine lv_iconst (v := (2 : Int32)) hx hb dX10_read_231 (by decide) ?_
    refine lv_icmp_le (tgt := 239) hx hb dX10_read_232 (by decide) (fun hc => ?_) (fun hc => ?_)
    · have hF := oi_t hc hF
      refine lv_iload_n hx hb dX10_read_239 rfl (lv_at hl 2 rfl) ?_
      exact wX10_read_240 ad A C0 M hr hF (lv_sub hl [] rfl) Kr Kh0
    · have hF := oi_f hc hF
      refine lv_iconst (v := (-1 : Int32)) hx hb dX10_read_235 (by decide) ?_
      refine lv_goto (tgt := 240) hx hb dX10_read_236 (by decide) ?_
      exact wX10_read_240 ad A C0 M hr hF (lv_sub hl [] rfl) Kr Kh0
  · have hF := oi_f hc hF
    refine lv_aload_n hx hb dX10_read_16 rfl (lv_at hl 0 rfl) ?_
    obtain ⟨v17, hv, hF⟩ := ob hF
    refine k_getP C0 M.1 hv fl_X10_131 dX10_read_17 ?_
    refine lv_iload_n hx hb dX10_read_20 rfl (lv_at hl 1 rfl) ?_
    refine lv_iload hx hb dX10_read_21 (lv_at hl 4 rfl) ?_
    refine lv_iadd hx hb dX10_read_23 ?_
    obtain ⟨v24, hv, hF⟩ := ob hF
    refine k_ld C0 M.1 hv dX10_read_24 ?_
    refine lv_istore (lv' := [(5, .int v24), (0, .ref (ad x0)), (1, .int x1), (2, .int x2), (3, .int x3), (4, .int x4)]) hx hb dX10_read_25 hl (by decide) rfl (fun ls hl => ?_)
    refine lv_iload hx hb dX10_read_27 (lv_at hl 0 rfl) ?_
    refine lv_i2l (v := (v24.toInt64)) hx hb dX10_read_29 rfl ?_
    refine lv_ldc2 (v := (48 : Int64)) hx hb hown (hts _ (uw_of 1572 (by decide +kernel) rfl)) dX10_read_30 ?_
    refine lv_ldc2 (v := (57 : Int64)) hx hb hown (hts _ (uw_of 1573 (by decide +kernel) rfl)) dX10_read_33 ?_
    obtain ⟨v36, hcl, hF⟩ := ob hF
    refine go_SI (r_S (rest := []) (As := [.long (v24.toInt64), .long (48 : Int64), .long (57 : Int64)]) C0 cb_X10_156 (tX10_in l D cy ad hcl) (pre_S C0) hl dX10_read_36 rfl (Nat.le_of_ble_eq_true rfl) ⟨rfl, rfl⟩ ⟨Nat.le_of_ble_eq_true rfl, Nat.le_of_ble_eq_true rfl⟩ ⟨Nat.le_of_ble_eq_true rfl, Nat.le_of_ble_eq_true rfl⟩ rfl) ?_
    refine lv_istore (lv' := [(6, .int v36), (5, .int v24), (0, .ref (ad x0)), (1, .int x1), (2, .int x2), (3, .int x3), (4, .int x4)]) hx hb dX10_read_39 hl (by decide) rfl (fun ls hl => ?_)
    refine lv_iload_n hx hb dX10_read_41 rfl (lv_at hl 5 rfl) ?_
    refine lv_if_ne (tgt := 82) hx hb dX10_read_42 (by decide) (fun hc => ?_) (fun hc => ?_)
    · have hF := oi_f hc hF
      exact wX10_read_82 ad A C0 M hr hF (lv_sub hl [2, 3, 4, 5, 6, 1, 0] rfl) Kr Kh0
    · have hF := oi_t hc hF
      refine lv_iload hx hb dX10_read_45 (lv_at hl 1 rfl) ?_
      obtain ⟨v47, hcl, hF⟩ := ob hF
      refine go_SI (r_S (rest := []) (As := [.int v24]) C0 cb_X10_393 (tX10_regionOf l D cy ad hcl) (pre_S C0) hl dX10_read_47 rfl (Nat.le_of_ble_eq_true rfl) ⟨rfl, rfl⟩ ⟨Nat.le_of_ble_eq_true rfl, Nat.le_of_ble_eq_true rfl⟩ ⟨Nat.le_of_ble_eq_true rfl, Nat.le_of_ble_eq_true rfl⟩ rfl) ?_
      refine lv_if_lt (tgt := 82) hx hb dX10_read_50 (by decide) (fun hc => ?_) (fun hc => ?_)
      · have hF := oi_t hc hF
        exact wX10_read_82 ad A C0 M hr hF (lv_sub hl [2, 3, 4, 5, 6, 1, 0] rfl) Kr Kh0
      · have hF := oi_f hc hF
        refine lv_aload_n hx hb dX10_read_53 rfl (lv_at hl 2 rfl) ?_
        obtain ⟨v54, hv, hF⟩ := ob hF
        refine k_getP C0 M.1 hv fl_X10_116 dX10_read_54 ?_
        refine lv_aload_n hx hb dX10_read_57 rfl (lv_at hl 2 rfl) ?_
        obtain ⟨v58, hv, hF⟩ := ob hF
        refine k_getI C0 M.1 hv fl_X10_386 dX10_read_58 ?_
        refine lv_iload hx hb dX10_read_61 (lv_at hl 1 rfl) ?_
        obtain ⟨v63, hcl, hF⟩ := ob hF
        refine go_SI (r_S (rest := [.int v58, .ref (ad v54)]) (As := [.int v24]) C0 cb_X10_393 (tX10_regionOf l D cy ad hcl) (pre_S C0) hl dX10_read_63 rfl (Nat.le_of_ble_eq_true rfl) ⟨rfl, rfl⟩ ⟨Nat.le_of_ble_eq_true rfl, Nat.le_of_ble_eq_true rfl⟩ ⟨Nat.le_of_ble_eq_true rfl, Nat.le_of_ble_eq_true rfl⟩ rfl) ?_
        obtain ⟨S66, hv, hF⟩ := ob hF
        refine k_st C0 M hv dX10_read_66 (fun H locs M => ?_)
        refine lv_aload_n hx hb dX10_read_67 rfl (lv_at hl 2 rfl) ?_
        obtain ⟨v68, hv, hF⟩ := ob hF
        refine k_getP C0 M.1 hv fl_X10_122 dX10_read_68 ?_
        refine lv_aload_n hx hb dX10_read_71 rfl (lv_at hl 2 rfl) ?_
        obtain ⟨v72, hv, hF⟩ := ob hF
        refine k_getI C0 M.1 hv fl_X10_386 dX10_read_72 ?_
        refine lv_iconst (v := (0 : Int32)) hx hb dX10_read_75 (by decide) ?_
        obtain ⟨S76, hv, hF⟩ := ob hF
        refine k_st C0 M hv dX10_read_76 (fun H locs M => ?_)
        refine lv_iconst (v := (1 : Int32)) hx hb dX10_read_77 (by decide) ?_
        refine lv_istore_n (lv' := [(3, .int (1 : Int32)), (6, .int v36), (5, .int v24), (0, .ref (ad x0)), (1, .int x1), (2, .int x2), (4, .int x4)]) hx hb dX10_read_78 rfl hl (by decide) rfl (fun ls hl => ?_)
        refine lv_goto (tgt := 214) hx hb dX10_read_79 (by decide) ?_
        exact wX10_read_214 ad A C0 M hr hF (lv_sub hl [3, 4, 5, 0, 6] rfl) Kr Kh0
set_option maxHeartbeats 4000000 in
set_option maxRecDepth 100000 in
theorem tX10_read (l : Launch) (D : va_G) (cy : Nat → ClassId) (ad : Nat → Nat) (A : Nat → Prop) {S S' : MS} {a0 : Nat} {a1 : Int32} {a2 : Int32} {r : Int32} (h : fX10_read S a0 a1 a2 = some (r, S')) : Met l yX10_read [Cond.code yX10_read cX10_read 7 (some .int)] rmX10_read (PcR D cy ad A S [.ref (ad a0), .int a1, .int a2]) (QcM D cy ad A (m_n S) S' (some (.int r))) 0 0 A := by
  refine met_M (by decide +kernel) cw_X10_read (Nat.le_of_ble_eq_true rfl) ?_
  intro p e s m args below meth c ls C0 M hr hin hl
  have hl : lv_has ls 7 [(0, .ref (ad a0)), (1, .int a1), (2, .int a2)] := hl
  have key := lim_walk (step := sX10_read) (fun (q : (Nat × Int32 × Int32 × Int32 × Int32 × MS)) (r9 : (Int32 × MS)) => ∀ (r : Int32) (S' : MS), r9 = (r, S') → ((∀ (y0 : Nat) (y1 : Int32) (y2 : Int32) (y3 : Int32) (y4 : Int32) (S2 : MS), q = (y0, y1, y2, y3, y4, S2) → ∀ (H1 : Heap) (locs1 : List Loc) (ls1 : Array Slot), ST D cy ad A s.heap (ZN (m_n S) s.heap.size) S2 H1 locs1 → lv_has ls1 7 [(0, .ref (ad y0)), (1, .int y1), (2, .int y2), (3, .int y3), (4, .int y4)] → W p l e rmX10_read s m args below meth c H1 locs1 0 0 (MQ below (QcM D cy ad A (m_n S) S' (some (.int r))) args s 0 0 A) (F0 m 10 ls1 [])))) ?_
  · unfold fX10_read at h
    cases hs0 : bX10_read_0 S a0 a1 a2 with
    | none => rw [hs0] at h; cases h
    | some out =>
      rw [hs0] at h
      refine wX10_read_0 ad A C0 M hr hs0 hl (fun r9 hr9 => ?_) ?_
      · subst hr9; exact Option.some.inj h
      · intro y0 y1 y2 y3 y4 y5 hq; subst hq; exact (key _ _ h _ _ rfl) _ _ _ _ _ _ rfl
  · intro q r9 out hst hre hin9
    intro r S' er; subst er
    refine ?_
    · intro y0 y1 y2 y3 y4 y5 hq H1 locs1 ls1 M hl
      subst hq
      exact wX10_read_10 ad A C0 M hr hst hl hre (fun k0 k1 k2 k3 k4 k5 hk => (hin9 _ hk _ _ rfl) _ _ _ _ _ _ rfl)
set_option maxHeartbeats 4000000 in
set_option maxRecDepth 100000 in
theorem wX10_forecast_57 {p : Program} {l : Launch} {e : Env} {s : State} {m : MethodId} {args : Array Value} {below : List Frame} {meth : Method} {c : Code} {D : va_G} {cy : Nat → ClassId} (ad : Nat → Nat) (A : Nat → Prop) {S : MS} {S' : MS} {H : Heap} {locs : List Loc} {n0 : Nat} {r : Int32} {out : ((Nat × Int32 × MS) ⊕ (Int32 × MS))} {ls : Array Slot} {x0 : Nat} {x1 : Int32} {x3 : Int32} {x4 : Int32} (C0 : CX p s m args meth c RX10 cX10_forecast 7 D cy) (M : ST D cy ad A s.heap (ZN n0 s.heap.size) S H locs) (hr : meth.sig.returnType = some .int) (hF : bX10_forecast_57 S x0 x1 x3 x4 = some out) (hl : lv_has ls 7 [(0, .ref (ad x0)), (1, .int x1), (3, .int x3), (4, .int x4)]) (Kr : ∀ r9, out = .inr r9 → r9 = (r, S')) (Kh0 : ∀ (y0 : Nat) (y1 : Int32) (S2 : MS), out = .inl (y0, y1, S2) → ∀ (H1 : Heap) (locs1 : List Loc) (ls1 : Array Slot), ST D cy ad A s.heap (ZN n0 s.heap.size) S2 H1 locs1 → lv_has ls1 7 [(0, .ref (ad y0)), (6, .int y1)] → W p l e rmX10_forecast s m args below meth c H1 locs1 0 0 (MQ below (QcM D cy ad A n0 S' (some (.int r))) args s 0 0 A) (F0 m 166 ls1 [])) : W p l e rmX10_forecast s m args below meth c H locs 0 0 (MQ below (QcM D cy ad A n0 S' (some (.int r))) args s 0 0 A) (F0 m 57 ls []) := by
  unfold bX10_forecast_57 at hF
  obtain ⟨hx, hb, -, hown, -, hts, -⟩ := id C0
  refine lv_aload_n hx hb dX10_forecast_57 rfl (lv_at hl 0 rfl) ?_
  obtain ⟨v58, hv, hF⟩ := ob hF
  refine k_getP C0 M.1 hv fl_X10_125 dX10_forecast_58 ?_
  refine lv_iload_n hx hb dX10_forecast_61 rfl (lv_at hl 1 rfl) ?_
  obtain ⟨v62, hv, hF⟩ := ob hF
  refine k_ld C0 M.1 hv dX10_forecast_62 ?_
  refine lv_if_ge (tgt := 72) hx hb dX10_forecast_63 (by decide) (fun hc => ?_) (fun hc => ?_)
  · have hF := oi_t hc hF
    refine lv_iload hx hb dX10_forecast_72 (lv_at hl 3 rfl) ?_
    refine lv_if_ge (tgt := 83) hx hb dX10_forecast_74 (by decide) (fun hc => ?_) (fun hc => ?_)
    · have hF := oi_t hc hF
      refine lv_iload_n hx hb dX10_forecast_83 rfl (lv_at hl 2 rfl) ?_
      refine lv_iload hx hb dX10_forecast_84 (lv_at hl 3 rfl) ?_
      refine lv_i2l (v := (x4.toInt64)) hx hb dX10_forecast_86 rfl ?_
      refine lv_aload_n hx hb dX10_forecast_87 rfl (lv_at hl 0 rfl) ?_
      obtain ⟨v88, hv, hF⟩ := ob hF
      refine k_getP C0 M.1 hv fl_X10_125 dX10_forecast_88 ?_
      refine lv_iload_n hx hb dX10_forecast_91 rfl (lv_at hl 1 rfl) ?_
      obtain ⟨v92, hv, hF⟩ := ob hF
      refine k_ld C0 M.1 hv dX10_forecast_92 ?_
      obtain ⟨v93, hcl, hF⟩ := ob hF
      refine go_SI (r_S (rest := []) (As := [.int x3, .long (x4.toInt64), .int v92]) C0 cb_X10_223 (tX10_isBeyond l D cy ad hcl) (pre_S C0) hl dX10_forecast_93 rfl (Nat.le_of_ble_eq_true rfl) ⟨rfl, rfl⟩ ⟨Nat.le_of_ble_eq_true rfl, Nat.le_of_ble_eq_true rfl⟩ ⟨Nat.le_of_ble_eq_true rfl, Nat.le_of_ble_eq_true rfl⟩ rfl) ?_
      refine lv_if_eq (tgt := 105) hx hb dX10_forecast_96 (by decide) (fun hc => ?_) (fun hc => ?_)
      · have hF := oi_t hc hF
        refine lv_aload_n hx hb dX10_forecast_105 rfl (lv_at hl 0 rfl) ?_
        refine lv_bipush (v := (60 : Int32)) hx hb dX10_forecast_106 (by decide) ?_
        refine lv_iload_n hx hb dX10_forecast_108 rfl (lv_at hl 1 rfl) ?_
        refine lv_imul hx hb dX10_forecast_109 ?_
        refine lv_iload_n hx hb dX10_forecast_110 rfl (lv_at hl 2 rfl) ?_
        refine lv_iadd hx hb dX10_forecast_111 ?_
        refine lv_iload hx hb dX10_forecast_112 (lv_at hl 3 rfl) ?_
        obtain ⟨_, hrec, hF⟩ := ob hF
        obtain ⟨v114, S114, hcl, hF⟩ := ob2 hF
        refine go_MI (r_V (rest := []) (As := [.int (((60 : Int32) * x1) + x3), .int x4]) C0 cb_X10_396 M.1 hrec (tX10_read l D cy ad A hcl) (pre_R C0 M.1) hl dX10_forecast_114 rfl (Nat.le_of_ble_eq_true rfl) ⟨rfl, rfl⟩ ⟨Nat.le_of_ble_eq_true rfl, Nat.le_of_ble_eq_true rfl⟩ ⟨Nat.le_of_ble_eq_true rfl, Nat.le_of_ble_eq_true rfl⟩ rfl) M (fun H locs M => ?_)
        refine lv_istore (lv' := [(5, .int v114), (0, .ref (ad x0)), (1, .int x1), (3, .int x3), (4, .int x4)]) hx hb dX10_forecast_117 hl (by decide) rfl (fun ls hl => ?_)
        refine lv_iload hx hb dX10_forecast_119 (lv_at hl 0 rfl) ?_
        refine lv_if_lt (tgt := 134) hx hb dX10_forecast_121 (by decide) (fun hc => ?_) (fun hc => ?_)
        · have hF := oi_t hc hF
          refine lv_aload_n hx hb dX10_forecast_134 rfl (lv_at hl 1 rfl) ?_
          obtain ⟨v135, hv, hF⟩ := ob hF
          refine k_getI C0 M.1 hv fl_X10_399 dX10_forecast_135 ?_
          refine lv_bipush (v := (8 : Int32)) hx hb dX10_forecast_138 (by decide) ?_
          refine lv_icmp_ne (tgt := 150) hx hb dX10_forecast_140 (by decide) (fun hc => ?_) (fun hc => ?_)
          · have hF := oi_f hc hF
            refine lv_aload_n hx hb dX10_forecast_150 rfl (lv_at hl 1 rfl) ?_
            obtain ⟨v151, hv, hF⟩ := ob hF
            refine k_getP C0 M.1 hv fl_X10_104 dX10_forecast_151 ?_
            refine lv_aload_n hx hb dX10_forecast_154 rfl (lv_at hl 1 rfl) ?_
            obtain ⟨v155, hv, hF⟩ := ob hF
            refine k_getI C0 M.1 hv fl_X10_399 dX10_forecast_155 ?_
            refine lv_aload_n hx hb dX10_forecast_158 rfl (lv_at hl 1 rfl) ?_
            obtain ⟨v159, hv, hF⟩ := ob hF
            refine k_getI C0 M.1 hv fl_X10_386 dX10_forecast_159 ?_
            obtain ⟨S162, hv, hF⟩ := ob hF
            refine k_st C0 M hv dX10_forecast_162 (fun H locs M => ?_)
            refine lv_iconst (v := (0 : Int32)) hx hb dX10_forecast_163 (by decide) ?_
            refine lv_istore (lv' := [(6, .int (0 : Int32)), (5, .int v114), (0, .ref (ad x0)), (1, .int x1), (3, .int x3), (4, .int x4)]) hx hb dX10_forecast_164 hl (by decide) rfl (fun ls hl => ?_)
            exact Kh0 _ _ _ (Option.some.inj hF).symm _ _ _ M (lv_sub hl [2, 0] rfl)
          · have hF := oi_t hc hF
            refine lv_aload_n hx hb dX10_forecast_143 rfl (lv_at hl 1 rfl) ?_
            refine lv_bipush (v := (-4 : Int32)) hx hb dX10_forecast_144 (by decide) ?_
            obtain ⟨_, hrec, hF⟩ := ob hF
            obtain ⟨v146, S146, hcl, hF⟩ := ob2 hF
            refine go_MI (r_V (rest := []) (As := [.int (-4 : Int32)]) C0 cb_X10_215 M.1 hrec (tX10_refused l D cy ad A hcl) (pre_R C0 M.1) hl dX10_forecast_146 rfl (Nat.le_of_ble_eq_true rfl) ⟨rfl, rfl⟩ ⟨Nat.le_of_ble_eq_true rfl, Nat.le_of_ble_eq_true rfl⟩ ⟨Nat.le_of_ble_eq_true rfl, Nat.le_of_ble_eq_true rfl⟩ rfl) M (fun H locs M => ?_)
            obtain ⟨rfl, rfl⟩ := Prod.mk.inj (Kr _ (Option.some.inj hF).symm)
            exact rt_MI C0 M hr dX10_forecast_149
        · have hF := oi_f hc hF
          refine lv_aload_n hx hb dX10_forecast_124 rfl (lv_at hl 1 rfl) ?_
          refine lv_bipush (v := (-100 : Int32)) hx hb dX10_forecast_125 (by decide) ?_
          refine lv_iload hx hb dX10_forecast_127 (lv_at hl 0 rfl) ?_
          refine lv_isub hx hb dX10_forecast_129 ?_
          obtain ⟨_, hrec, hF⟩ := ob hF
          obtain ⟨v130, S130, hcl, hF⟩ := ob2 hF
          refine go_MI (r_V (rest := []) (As := [.int ((-100 : Int32) - v114)]) C0 cb_X10_215 M.1 hrec (tX10_refused l D cy ad A hcl) (pre_R C0 M.1) hl dX10_forecast_130 rfl (Nat.le_of_ble_eq_true rfl) ⟨rfl, rfl⟩ ⟨Nat.le_of_ble_eq_true rfl, Nat.le_of_ble_eq_true rfl⟩ ⟨Nat.le_of_ble_eq_true rfl, Nat.le_of_ble_eq_true rfl⟩ rfl) M (fun H locs M => ?_)
          obtain ⟨rfl, rfl⟩ := Prod.mk.inj (Kr _ (Option.some.inj hF).symm)
          exact rt_MI C0 M hr dX10_forecast_133
      · have hF := oi_f hc hF
        refine lv_aload_n hx hb dX10_forecast_99 rfl (lv_at hl 0 rfl) ?_
        refine lv_iconst (v := (3 : Int32)) hx hb dX10_forecast_100 (by decide) ?_
        obtain ⟨_, hrec, hF⟩ := ob hF
        obtain ⟨v101, S101, hcl, hF⟩ := ob2 hF
        refine go_MI (r_V (rest := []) (As := [.int (3 : Int32)]) C0 cb_X10_218 M.1 hrec (tX10_failed l D cy ad A hcl) (pre_R C0 M.1) hl dX10_forecast_101 rfl (Nat.le_of_ble_eq_true rfl) ⟨rfl, rfl⟩ ⟨Nat.le_of_ble_eq_true rfl, Nat.le_of_ble_eq_true rfl⟩ ⟨Nat.le_of_ble_eq_true rfl, Nat.le_of_ble_eq_true rfl⟩ rfl) M (fun H locs M => ?_)
        obtain ⟨rfl, rfl⟩ := Prod.mk.inj (Kr _ (Option.some.inj hF).symm)
        exact rt_MI C0 M hr dX10_forecast_104
    · have hF := oi_f hc hF
      refine lv_aload_n hx hb dX10_forecast_77 rfl (lv_at hl 0 rfl) ?_
      refine lv_iconst (v := (4 : Int32)) hx hb dX10_forecast_78 (by decide) ?_
      obtain ⟨_, hrec, hF⟩ := ob hF
      obtain ⟨v79, S79, hcl, hF⟩ := ob2 hF
      refine go_MI (r_V (rest := []) (As := [.int (4 : Int32)]) C0 cb_X10_218 M.1 hrec (tX10_failed l D cy ad A hcl) (pre_R C0 M.1) hl dX10_forecast_79 rfl (Nat.le_of_ble_eq_true rfl) ⟨rfl, rfl⟩ ⟨Nat.le_of_ble_eq_true rfl, Nat.le_of_ble_eq_true rfl⟩ ⟨Nat.le_of_ble_eq_true rfl, Nat.le_of_ble_eq_true rfl⟩ rfl) M (fun H locs M => ?_)
      obtain ⟨rfl, rfl⟩ := Prod.mk.inj (Kr _ (Option.some.inj hF).symm)
      exact rt_MI C0 M hr dX10_forecast_82
  · have hF := oi_f hc hF
    refine lv_aload_n hx hb dX10_forecast_66 rfl (lv_at hl 0 rfl) ?_
    refine lv_iconst (v := (1 : Int32)) hx hb dX10_forecast_67 (by decide) ?_
    obtain ⟨_, hrec, hF⟩ := ob hF
    obtain ⟨v68, S68, hcl, hF⟩ := ob2 hF
    refine go_MI (r_V (rest := []) (As := [.int (1 : Int32)]) C0 cb_X10_218 M.1 hrec (tX10_failed l D cy ad A hcl) (pre_R C0 M.1) hl dX10_forecast_68 rfl (Nat.le_of_ble_eq_true rfl) ⟨rfl, rfl⟩ ⟨Nat.le_of_ble_eq_true rfl, Nat.le_of_ble_eq_true rfl⟩ ⟨Nat.le_of_ble_eq_true rfl, Nat.le_of_ble_eq_true rfl⟩ rfl) M (fun H locs M => ?_)
    obtain ⟨rfl, rfl⟩ := Prod.mk.inj (Kr _ (Option.some.inj hF).symm)
    exact rt_MI C0 M hr dX10_forecast_71
set_option maxHeartbeats 4000000 in
set_option maxRecDepth 100000 in
theorem wX10_forecast_0 {p : Program} {l : Launch} {e : Env} {s : State} {m : MethodId} {args : Array Value} {below : List Frame} {meth : Method} {c : Code} {D : va_G} {cy : Nat → ClassId} (ad : Nat → Nat) (A : Nat → Prop) {S : MS} {S' : MS} {H : Heap} {locs : List Loc} {n0 : Nat} {r : Int32} {out : ((Nat × Int32 × MS) ⊕ (Int32 × MS))} {ls : Array Slot} {x0 : Nat} {x1 : Int32} {x2 : Int32} {x3 : Int32} {x4 : Int32} (C0 : CX p s m args meth c RX10 cX10_forecast 7 D cy) (M : ST D cy ad A s.heap (ZN n0 s.heap.size) S H locs) (hr : meth.sig.returnType = some .int) (hF : bX10_forecast_0 S x0 x1 x2 x3 x4 = some out) (hl : lv_has ls 7 [(0, .ref (ad x0)), (1, .int x1), (2, .int x2), (3, .int x3), (4, .int x4)]) (Kr : ∀ r9, out = .inr r9 → r9 = (r, S')) (Kh0 : ∀ (y0 : Nat) (y1 : Int32) (S2 : MS), out = .inl (y0, y1, S2) → ∀ (H1 : Heap) (locs1 : List Loc) (ls1 : Array Slot), ST D cy ad A s.heap (ZN n0 s.heap.size) S2 H1 locs1 → lv_has ls1 7 [(0, .ref (ad y0)), (6, .int y1)] → W p l e rmX10_forecast s m args below meth c H1 locs1 0 0 (MQ below (QcM D cy ad A n0 S' (some (.int r))) args s 0 0 A) (F0 m 166 ls1 [])) : W p l e rmX10_forecast s m args below meth c H locs 0 0 (MQ below (QcM D cy ad A n0 S' (some (.int r))) args s 0 0 A) (F0 m 0 ls []) := by
  unfold bX10_forecast_0 at hF
  obtain ⟨hx, hb, -, hown, -, hts, -⟩ := id C0
  refine lv_iload_n hx hb dX10_forecast_0 rfl (lv_at hl 1 rfl) ?_
  obtain ⟨v1, hcl, hF⟩ := ob hF
  refine go_SI (r_S (rest := []) (As := [.int x1]) C0 cb_X10_212 (tX10_noSheet l D cy ad hcl) (pre_S C0) hl dX10_forecast_1 rfl (Nat.le_of_ble_eq_true rfl) ⟨rfl, rfl⟩ ⟨Nat.le_of_ble_eq_true rfl, Nat.le_of_ble_eq_true rfl⟩ ⟨Nat.le_of_ble_eq_true rfl, Nat.le_of_ble_eq_true rfl⟩ rfl) ?_
  refine lv_if_eq (tgt := 13) hx hb dX10_forecast_4 (by decide) (fun hc => ?_) (fun hc => ?_)
  · have hF := oi_t hc hF
    refine lv_iload_n hx hb dX10_forecast_13 rfl (lv_at hl 2 rfl) ?_
    refine lv_i2l (v := (x2.toInt64)) hx hb dX10_forecast_14 rfl ?_
    refine lv_lconst (v := (0 : Int64)) hx hb dX10_forecast_15 (by decide) ?_
    refine lv_ldc2 (v := (2 : Int64)) hx hb hown (hts _ (uw_of 1250 (by decide +kernel) rfl)) dX10_forecast_16 ?_
    obtain ⟨v19, hcl, hF⟩ := ob hF
    refine go_SI (r_S (rest := []) (As := [.long (x2.toInt64), .long (0 : Int64), .long (2 : Int64)]) C0 cb_X10_156 (tX10_in l D cy ad hcl) (pre_S C0) hl dX10_forecast_19 rfl (Nat.le_of_ble_eq_true rfl) ⟨rfl, rfl⟩ ⟨Nat.le_of_ble_eq_true rfl, Nat.le_of_ble_eq_true rfl⟩ ⟨Nat.le_of_ble_eq_true rfl, Nat.le_of_ble_eq_true rfl⟩ rfl) ?_
    refine lv_if_ne (tgt := 32) hx hb dX10_forecast_22 (by decide) (fun hc => ?_) (fun hc => ?_)
    · have hF := oi_f hc hF
      refine lv_aload_n hx hb dX10_forecast_32 rfl (lv_at hl 0 rfl) ?_
      obtain ⟨v33, hv, hF⟩ := ob hF
      refine k_getP C0 M.1 hv fl_X10_125 dX10_forecast_33 ?_
      refine lv_iload_n hx hb dX10_forecast_36 rfl (lv_at hl 1 rfl) ?_
      obtain ⟨v37, hv, hF⟩ := ob hF
      refine k_ld C0 M.1 hv dX10_forecast_37 ?_
      refine lv_if_lt (tgt := 57) hx hb dX10_forecast_38 (by decide) (fun hc => ?_) (fun hc => ?_)
      · have hF := oi_t hc hF
        exact wX10_forecast_57 ad A C0 M hr hF (lv_sub hl [0, 1, 3, 4] rfl) Kr Kh0
      · have hF := oi_f hc hF
        refine lv_aload_n hx hb dX10_forecast_41 rfl (lv_at hl 0 rfl) ?_
        obtain ⟨v42, hv, hF⟩ := ob hF
        refine k_getP C0 M.1 hv fl_X10_128 dX10_forecast_42 ?_
        refine lv_iload_n hx hb dX10_forecast_45 rfl (lv_at hl 1 rfl) ?_
        obtain ⟨v46, hv, hF⟩ := ob hF
        refine k_ld C0 M.1 hv dX10_forecast_46 ?_
        refine lv_iload_n hx hb dX10_forecast_47 rfl (lv_at hl 2 rfl) ?_
        refine lv_icmp_eq (tgt := 57) hx hb dX10_forecast_48 (by decide) (fun hc => ?_) (fun hc => ?_)
        · have hF := oi_t hc hF
          exact wX10_forecast_57 ad A C0 M hr hF (lv_sub hl [0, 1, 3, 4] rfl) Kr Kh0
        · have hF := oi_f hc hF
          refine lv_aload_n hx hb dX10_forecast_51 rfl (lv_at hl 0 rfl) ?_
          refine lv_iconst (v := (2 : Int32)) hx hb dX10_forecast_52 (by decide) ?_
          obtain ⟨_, hrec, hF⟩ := ob hF
          obtain ⟨v53, S53, hcl, hF⟩ := ob2 hF
          refine go_MI (r_V (rest := []) (As := [.int (2 : Int32)]) C0 cb_X10_218 M.1 hrec (tX10_failed l D cy ad A hcl) (pre_R C0 M.1) hl dX10_forecast_53 rfl (Nat.le_of_ble_eq_true rfl) ⟨rfl, rfl⟩ ⟨Nat.le_of_ble_eq_true rfl, Nat.le_of_ble_eq_true rfl⟩ ⟨Nat.le_of_ble_eq_true rfl, Nat.le_of_ble_eq_true rfl⟩ rfl) M (fun H locs M => ?_)
          obtain ⟨rfl, rfl⟩ := Prod.mk.inj (Kr _ (Option.some.inj hF).symm)
          exact rt_MI C0 M hr dX10_forecast_56
    · have hF := oi_t hc hF
      refine lv_aload_n hx hb dX10_forecast_25 rfl (lv_at hl 0 rfl) ?_
      refine lv_bipush (v := (-2 : Int32)) hx hb dX10_forecast_26 (by decide) ?_
      obtain ⟨_, hrec, hF⟩ := ob hF
      obtain ⟨v28, S28, hcl, hF⟩ := ob2 hF
      refine go_MI (r_V (rest := []) (As := [.int (-2 : Int32)]) C0 cb_X10_215 M.1 hrec (tX10_refused l D cy ad A hcl) (pre_R C0 M.1) hl dX10_forecast_28 rfl (Nat.le_of_ble_eq_true rfl) ⟨rfl, rfl⟩ ⟨Nat.le_of_ble_eq_true rfl, Nat.le_of_ble_eq_true rfl⟩ ⟨Nat.le_of_ble_eq_true rfl, Nat.le_of_ble_eq_true rfl⟩ rfl) M (fun H locs M => ?_)
      obtain ⟨rfl, rfl⟩ := Prod.mk.inj (Kr _ (Option.some.inj hF).symm)
      exact rt_MI C0 M hr dX10_forecast_31
  · have hF := oi_f hc hF
    refine lv_aload_n hx hb dX10_forecast_7 rfl (lv_at hl 0 rfl) ?_
    refine lv_iconst (v := (-1 : Int32)) hx hb dX10_forecast_8 (by decide) ?_
    obtain ⟨_, hrec, hF⟩ := ob hF
    obtain ⟨v9, S9, hcl, hF⟩ := ob2 hF
    refine go_MI (r_V (rest := []) (As := [.int (-1 : Int32)]) C0 cb_X10_215 M.1 hrec (tX10_refused l D cy ad A hcl) (pre_R C0 M.1) hl dX10_forecast_9 rfl (Nat.le_of_ble_eq_true rfl) ⟨rfl, rfl⟩ ⟨Nat.le_of_ble_eq_true rfl, Nat.le_of_ble_eq_true rfl⟩ ⟨Nat.le_of_ble_eq_true rfl, Nat.le_of_ble_eq_true rfl⟩ rfl) M (fun H locs M => ?_)
    obtain ⟨rfl, rfl⟩ := Prod.mk.inj (Kr _ (Option.some.inj hF).symm)
    exact rt_MI C0 M hr dX10_forecast_12
set_option maxHeartbeats 4000000 in
set_option maxRecDepth 100000 in
theorem wX10_forecast_166 {p : Program} {l : Launch} {e : Env} {s : State} {m : MethodId} {args : Array Value} {below : List Frame} {meth : Method} {c : Code} {D : va_G} {cy : Nat → ClassId} (ad : Nat → Nat) (A : Nat → Prop) {S : MS} {S' : MS} {H : Heap} {locs : List Loc} {n0 : Nat} {r : Int32} {out : ((Nat × Int32 × MS) ⊕ (Int32 × MS))} {ls : Array Slot} {x0 : Nat} {x6 : Int32} (C0 : CX p s m args meth c RX10 cX10_forecast 7 D cy) (M : ST D cy ad A s.heap (ZN n0 s.heap.size) S H locs) (hr : meth.sig.returnType = some .int) (hF : bX10_forecast_166 S x0 x6 = some out) (hl : lv_has ls 7 [(0, .ref (ad x0)), (6, .int x6)]) (Kr : ∀ r9, out = .inr r9 → r9 = (r, S')) (Kh0 : ∀ (y0 : Nat) (y1 : Int32) (S2 : MS), out = .inl (y0, y1, S2) → ∀ (H1 : Heap) (locs1 : List Loc) (ls1 : Array Slot), ST D cy ad A s.heap (ZN n0 s.heap.size) S2 H1 locs1 → lv_has ls1 7 [(0, .ref (ad y0)), (6, .int y1)] → W p l e rmX10_forecast s m args below meth c H1 locs1 0 0 (MQ below (QcM D cy ad A n0 S' (some (.int r))) args s 0 0 A) (F0 m 166 ls1 [])) : W p l e rmX10_forecast s m args below meth c H locs 0 0 (MQ below (QcM D cy ad A n0 S' (some (.int r))) args s 0 0 A) (F0 m 166 ls []) := by
  unfold bX10_forecast_166 at hF
  obtain ⟨hx, hb, -, hown, -, hts, -⟩ := id C0
  refine lv_iload hx hb dX10_forecast_166 (lv_at hl 1 rfl) ?_
  refine lv_aload_n hx hb dX10_forecast_168 rfl (lv_at hl 0 rfl) ?_
  obtain ⟨v169, hv, hF⟩ := ob hF
  refine k_getI C0 M.1 hv fl_X10_386 dX10_forecast_169 ?_
  refine lv_icmp_ge (tgt := 244) hx hb dX10_forecast_172 (by decide) (fun hc => ?_) (fun hc => ?_)
  · have hF := oi_t hc hF
    refine lv_aload_n hx hb dX10_forecast_244 rfl (lv_at hl 0 rfl) ?_
    refine lv_dup hx hb dX10_forecast_245 rfl ?_
    obtain ⟨v246, hv, hF⟩ := ob hF
    refine k_getI C0 M.1 hv fl_X10_399 dX10_forecast_246 ?_
    refine lv_iconst (v := (1 : Int32)) hx hb dX10_forecast_249 (by decide) ?_
    refine lv_iadd hx hb dX10_forecast_250 ?_
    obtain ⟨S251, hv, hF⟩ := ob hF
    refine k_sI C0 M hv fl_X10_399 dX10_forecast_251 (fun H locs M => ?_)
    refine lv_aload_n hx hb dX10_forecast_254 rfl (lv_at hl 0 rfl) ?_
    refine lv_aload_n hx hb dX10_forecast_255 rfl (lv_at hl 0 rfl) ?_
    obtain ⟨v256, hv, hF⟩ := ob hF
    refine k_getI C0 M.1 hv fl_X10_399 dX10_forecast_256 ?_
    refine lv_iconst (v := (1 : Int32)) hx hb dX10_forecast_259 (by decide) ?_
    refine lv_isub hx hb dX10_forecast_260 ?_
    obtain ⟨_, hrec, hF⟩ := ob hF
    obtain ⟨v261, S261, hcl, hF⟩ := ob2 hF
    refine go_MI (r_V (rest := []) (As := [.int (v256 - (1 : Int32))]) C0 cb_X10_215 M.1 hrec (tX10_refused l D cy ad A hcl) (pre_R C0 M.1) hl dX10_forecast_261 rfl (Nat.le_of_ble_eq_true rfl) ⟨rfl, rfl⟩ ⟨Nat.le_of_ble_eq_true rfl, Nat.le_of_ble_eq_true rfl⟩ ⟨Nat.le_of_ble_eq_true rfl, Nat.le_of_ble_eq_true rfl⟩ rfl) M (fun H locs M => ?_)
    obtain ⟨rfl, rfl⟩ := Prod.mk.inj (Kr _ (Option.some.inj hF).symm)
    exact rt_MI C0 M hr dX10_forecast_264
  · have hF := oi_f hc hF
    refine lv_aload_n hx hb dX10_forecast_175 rfl (lv_at hl 0 rfl) ?_
    obtain ⟨v176, hv, hF⟩ := ob hF
    refine k_getP C0 M.1 hv fl_X10_107 dX10_forecast_176 ?_
    refine lv_iconst (v := (5 : Int32)) hx hb dX10_forecast_179 (by decide) ?_
    refine lv_aload_n hx hb dX10_forecast_180 rfl (lv_at hl 0 rfl) ?_
    obtain ⟨v181, hv, hF⟩ := ob hF
    refine k_getI C0 M.1 hv fl_X10_399 dX10_forecast_181 ?_
    refine lv_imul hx hb dX10_forecast_184 ?_
    refine lv_iload hx hb dX10_forecast_185 (lv_at hl 1 rfl) ?_
    refine lv_iadd hx hb dX10_forecast_187 ?_
    refine lv_aload_n hx hb dX10_forecast_188 rfl (lv_at hl 0 rfl) ?_
    obtain ⟨v189, hv, hF⟩ := ob hF
    refine k_getP C0 M.1 hv fl_X10_116 dX10_forecast_189 ?_
    refine lv_iload hx hb dX10_forecast_192 (lv_at hl 1 rfl) ?_
    obtain ⟨v194, hv, hF⟩ := ob hF
    refine k_ld C0 M.1 hv dX10_forecast_194 ?_
    obtain ⟨S195, hv, hF⟩ := ob hF
    refine k_st C0 M hv dX10_forecast_195 (fun H locs M => ?_)
    refine lv_aload_n hx hb dX10_forecast_196 rfl (lv_at hl 0 rfl) ?_
    obtain ⟨v197, hv, hF⟩ := ob hF
    refine k_getP C0 M.1 hv fl_X10_110 dX10_forecast_197 ?_
    refine lv_iconst (v := (5 : Int32)) hx hb dX10_forecast_200 (by decide) ?_
    refine lv_aload_n hx hb dX10_forecast_201 rfl (lv_at hl 0 rfl) ?_
    obtain ⟨v202, hv, hF⟩ := ob hF
    refine k_getI C0 M.1 hv fl_X10_399 dX10_forecast_202 ?_
    refine lv_imul hx hb dX10_forecast_205 ?_
    refine lv_iload hx hb dX10_forecast_206 (lv_at hl 1 rfl) ?_
    refine lv_iadd hx hb dX10_forecast_208 ?_
    refine lv_aload_n hx hb dX10_forecast_209 rfl (lv_at hl 0 rfl) ?_
    obtain ⟨v210, hv, hF⟩ := ob hF
    refine k_getP C0 M.1 hv fl_X10_119 dX10_forecast_210 ?_
    refine lv_iload hx hb dX10_forecast_213 (lv_at hl 1 rfl) ?_
    obtain ⟨v215, hv, hF⟩ := ob hF
    refine k_ldZ C0 M.1 hv dX10_forecast_215 ?_
    obtain ⟨z216, hz, hF⟩ := ob hF
    have hz2 := (o_if hz).2
    refine vtopi hz2 ?_
    rw [hz2] at hz
    obtain ⟨S216, hv, hF⟩ := ob hF
    refine k_stZ C0 M hz hv dX10_forecast_216 (fun H locs M => ?_)
    refine lv_aload_n hx hb dX10_forecast_217 rfl (lv_at hl 0 rfl) ?_
    obtain ⟨v218, hv, hF⟩ := ob hF
    refine k_getP C0 M.1 hv fl_X10_113 dX10_forecast_218 ?_
    refine lv_iconst (v := (5 : Int32)) hx hb dX10_forecast_221 (by decide) ?_
    refine lv_aload_n hx hb dX10_forecast_222 rfl (lv_at hl 0 rfl) ?_
    obtain ⟨v223, hv, hF⟩ := ob hF
    refine k_getI C0 M.1 hv fl_X10_399 dX10_forecast_223 ?_
    refine lv_imul hx hb dX10_forecast_226 ?_
    refine lv_iload hx hb dX10_forecast_227 (lv_at hl 1 rfl) ?_
    refine lv_iadd hx hb dX10_forecast_229 ?_
    refine lv_aload_n hx hb dX10_forecast_230 rfl (lv_at hl 0 rfl) ?_
    obtain ⟨v231, hv, hF⟩ := ob hF
    refine k_getP C0 M.1 hv fl_X10_122 dX10_forecast_231 ?_
    refine lv_iload hx hb dX10_forecast_234 (lv_at hl 1 rfl) ?_
    obtain ⟨v236, hv, hF⟩ := ob hF
    refine k_ld C0 M.1 hv dX10_forecast_236 ?_
    obtain ⟨S237, hv, hF⟩ := ob hF
    refine k_st C0 M hv dX10_forecast_237 (fun H locs M => ?_)
    obtain ⟨v238, hv, hF⟩ := ob hF
    refine lv_iinc (v := v238) (lv' := [(6, .int v238), (0, .ref (ad x0))]) hx hb dX10_forecast_238 hl (k := 1) rfl (by rw [← vtI hv]; rfl) (by decide) rfl (fun ls hl => ?_)
    refine lv_goto (tgt := 166) hx hb dX10_forecast_241 (by decide) ?_
    exact Kh0 _ _ _ (Option.some.inj hF).symm _ _ _ M (lv_sub hl [1, 0] rfl)
set_option maxHeartbeats 4000000 in
set_option maxRecDepth 100000 in
theorem tX10_forecast (l : Launch) (D : va_G) (cy : Nat → ClassId) (ad : Nat → Nat) (A : Nat → Prop) {S S' : MS} {a0 : Nat} {a1 : Int32} {a2 : Int32} {a3 : Int32} {a4 : Int32} {r : Int32} (h : fX10_forecast S a0 a1 a2 a3 a4 = some (r, S')) : Met l yX10_forecast [Cond.code yX10_forecast cX10_forecast 7 (some .int)] rmX10_forecast (PcR D cy ad A S [.ref (ad a0), .int a1, .int a2, .int a3, .int a4]) (QcM D cy ad A (m_n S) S' (some (.int r))) 0 0 A := by
  refine met_M (by decide +kernel) cw_X10_forecast (Nat.le_of_ble_eq_true rfl) ?_
  intro p e s m args below meth c ls C0 M hr hin hl
  have hl : lv_has ls 7 [(0, .ref (ad a0)), (1, .int a1), (2, .int a2), (3, .int a3), (4, .int a4)] := hl
  have key := lim_walk (step := sX10_forecast) (fun (q : (Nat × Int32 × MS)) (r9 : (Int32 × MS)) => ∀ (r : Int32) (S' : MS), r9 = (r, S') → ((∀ (y0 : Nat) (y1 : Int32) (S2 : MS), q = (y0, y1, S2) → ∀ (H1 : Heap) (locs1 : List Loc) (ls1 : Array Slot), ST D cy ad A s.heap (ZN (m_n S) s.heap.size) S2 H1 locs1 → lv_has ls1 7 [(0, .ref (ad y0)), (6, .int y1)] → W p l e rmX10_forecast s m args below meth c H1 locs1 0 0 (MQ below (QcM D cy ad A (m_n S) S' (some (.int r))) args s 0 0 A) (F0 m 166 ls1 [])))) ?_
  · unfold fX10_forecast at h
    cases hs0 : bX10_forecast_0 S a0 a1 a2 a3 a4 with
    | none => rw [hs0] at h; cases h
    | some out =>
      rw [hs0] at h
      refine wX10_forecast_0 ad A C0 M hr hs0 hl (fun r9 hr9 => ?_) ?_
      · subst hr9; exact Option.some.inj h
      · intro y0 y1 y2 hq; subst hq; exact (key _ _ h _ _ rfl) _ _ _ rfl
  · intro q r9 out hst hre hin9
    intro r S' er; subst er
    refine ?_
    · intro y0 y1 y2 hq H1 locs1 ls1 M hl
      subst hq
      exact wX10_forecast_166 ad A C0 M hr hst hl hre (fun k0 k1 k2 hk => (hin9 _ hk _ _ rfl) _ _ _ rfl)
set_option maxHeartbeats 4000000 in
set_option maxRecDepth 100000 in
theorem wX10_noFront_23 {p : Program} {l : Launch} {e : Env} {s : State} {m : MethodId} {args : Array Value} {below : List Frame} {meth : Method} {c : Code} {D : va_G} {cy : Nat → ClassId} (ad : Nat → Nat) (A : Nat → Prop) {S : MS} {r : Int32} {ls : Array Slot} {z0 : Int32} (C0 : CX p s m args meth c RX10 cX10_noFront 3 D cy) (M : MW D cy ad A S s.heap) (hr : meth.sig.returnType = some .boolean) (hF : bX10_noFront_23 S z0 = some r) (hl : lv_has ls 3 []) : W p l e rmX10_noFront s m args below meth c s.heap [] 0 0 (MQ below (QcS (some (.int r))) args s 0 0 (fun _ => False)) (F0 m 23 ls [.int z0]) := by
  unfold bX10_noFront_23 at hF
  obtain ⟨hx, hb, -, hown, -, hts, -⟩ := id C0
  obtain ⟨z23, hz, hF⟩ := ob hF
  have hz2 := (o_if hz).2
  refine vtopi hz2 ?_
  rw [hz2] at hz
  obtain rfl := (Option.some.inj hF)
  exact rt_SZ C0 hr hz dX10_noFront_23
set_option maxHeartbeats 4000000 in
set_option maxRecDepth 100000 in
theorem wX10_noFront_0 {p : Program} {l : Launch} {e : Env} {s : State} {m : MethodId} {args : Array Value} {below : List Frame} {meth : Method} {c : Code} {D : va_G} {cy : Nat → ClassId} (ad : Nat → Nat) (A : Nat → Prop) {S : MS} {r : Int32} {ls : Array Slot} {x0 : Nat} {x1 : Int32} {x2 : Int32} (C0 : CX p s m args meth c RX10 cX10_noFront 3 D cy) (M : MW D cy ad A S s.heap) (hr : meth.sig.returnType = some .boolean) (hF : bX10_noFront_0 S x0 x1 x2 = some r) (hl : lv_has ls 3 [(0, .ref (ad x0)), (1, .int x1), (2, .int x2)]) : W p l e rmX10_noFront s m args below meth c s.heap [] 0 0 (MQ below (QcS (some (.int r))) args s 0 0 (fun _ => False)) (F0 m 0 ls []) := by
  unfold bX10_noFront_0 at hF
  obtain ⟨hx, hb, -, hown, -, hts, -⟩ := id C0
  refine lv_iload_n hx hb dX10_noFront_0 rfl (lv_at hl 2 rfl) ?_
  refine lv_i2l (v := (x2.toInt64)) hx hb dX10_noFront_1 rfl ?_
  refine lv_lconst (v := (0 : Int64)) hx hb dX10_noFront_2 (by decide) ?_
  refine lv_aload_n hx hb dX10_noFront_3 rfl (lv_at hl 0 rfl) ?_
  obtain ⟨v4, hv, hF⟩ := ob hF
  refine k_getP C0 M hv fl_X10_68 dX10_noFront_4 ?_
  refine lv_iload_n hx hb dX10_noFront_7 rfl (lv_at hl 1 rfl) ?_
  obtain ⟨v8, hv, hF⟩ := ob hF
  refine k_ld C0 M hv dX10_noFront_8 ?_
  refine lv_i2l (v := (v8.toInt64)) hx hb dX10_noFront_9 rfl ?_
  refine lv_lconst (v := (1 : Int64)) hx hb dX10_noFront_10 (by decide) ?_
  refine lv_lsub hx hb dX10_noFront_11 ?_
  obtain ⟨v12, hcl, hF⟩ := ob hF
  refine go_SI (r_S (rest := []) (As := [.long (x2.toInt64), .long (0 : Int64), .long ((v8.toInt64) - (1 : Int64))]) C0 cb_X10_156 (tX10_in l D cy ad hcl) (pre_S C0) hl dX10_noFront_12 rfl (Nat.le_of_ble_eq_true rfl) ⟨rfl, rfl⟩ ⟨Nat.le_of_ble_eq_true rfl, Nat.le_of_ble_eq_true rfl⟩ ⟨Nat.le_of_ble_eq_true rfl, Nat.le_of_ble_eq_true rfl⟩ rfl) ?_
  refine lv_if_ne (tgt := 22) hx hb dX10_noFront_15 (by decide) (fun hc => ?_) (fun hc => ?_)
  · have hF := oi_f hc hF
    refine lv_iconst (v := (0 : Int32)) hx hb dX10_noFront_22 (by decide) ?_
    exact wX10_noFront_23 ad A C0 M hr hF (lv_sub hl [] rfl)
  · have hF := oi_t hc hF
    refine lv_iconst (v := (1 : Int32)) hx hb dX10_noFront_18 (by decide) ?_
    refine lv_goto (tgt := 23) hx hb dX10_noFront_19 (by decide) ?_
    exact wX10_noFront_23 ad A C0 M hr hF (lv_sub hl [] rfl)
set_option maxHeartbeats 4000000 in
set_option maxRecDepth 100000 in
theorem tX10_noFront (l : Launch) (D : va_G) (cy : Nat → ClassId) (ad : Nat → Nat) (A : Nat → Prop) {S : MS} {a0 : Nat} {a1 : Int32} {a2 : Int32} {r : Int32} (h : fX10_noFront S a0 a1 a2 = some r) : Met l yX10_noFront [Cond.code yX10_noFront cX10_noFront 3 (some .boolean)] rmX10_noFront (PcR D cy ad A S [.ref (ad a0), .int a1, .int a2]) (QcS (some (.int r))) 0 0 (fun _ => False) := by
  refine met_R (by decide +kernel) cw_X10_noFront (Nat.le_of_ble_eq_true rfl) ?_
  intro p e s m args below meth c ls C0 M hr hl
  have hl : lv_has ls 3 [(0, .ref (ad a0)), (1, .int a1), (2, .int a2)] := hl
  exact wX10_noFront_0 ad A C0 M hr h hl
set_option maxHeartbeats 4000000 in
set_option maxRecDepth 100000 in
theorem wX10_partnerOf_0 {p : Program} {l : Launch} {e : Env} {s : State} {m : MethodId} {args : Array Value} {below : List Frame} {meth : Method} {c : Code} {D : va_G} {cy : Nat → ClassId} (ad : Nat → Nat) (A : Nat → Prop) {S : MS} {S' : MS} {H : Heap} {locs : List Loc} {n0 : Nat} {r : Int32} {out : ((Nat × Int32 × Int32 × MS) ⊕ (Int32 × MS))} {ls : Array Slot} {x0 : Nat} {x1 : Int32} {x2 : Int32} (C0 : CX p s m args meth c RX10 cX10_partnerOf 4 D cy) (M : ST D cy ad A s.heap (ZN n0 s.heap.size) S H locs) (hr : meth.sig.returnType = some .int) (hF : bX10_partnerOf_0 S x0 x1 x2 = some out) (hl : lv_has ls 4 [(0, .ref (ad x0)), (1, .int x1), (2, .int x2)]) (Kr : ∀ r9, out = .inr r9 → r9 = (r, S')) (Kh0 : ∀ (y0 : Nat) (y1 : Int32) (y2 : Int32) (S2 : MS), out = .inl (y0, y1, y2, S2) → ∀ (H1 : Heap) (locs1 : List Loc) (ls1 : Array Slot), ST D cy ad A s.heap (ZN n0 s.heap.size) S2 H1 locs1 → lv_has ls1 4 [(0, .ref (ad y0)), (2, .int y1), (3, .int y2)] → W p l e rmX10_partnerOf s m args below meth c H1 locs1 0 0 (MQ below (QcM D cy ad A n0 S' (some (.int r))) args s 0 0 A) (F0 m 17 ls1 [])) : W p l e rmX10_partnerOf s m args below meth c H locs 0 0 (MQ below (QcM D cy ad A n0 S' (some (.int r))) args s 0 0 A) (F0 m 0 ls []) := by
  unfold bX10_partnerOf_0 at hF
  obtain ⟨hx, hb, -, hown, -, hts, -⟩ := id C0
  refine lv_aload_n hx hb dX10_partnerOf_0 rfl (lv_at hl 0 rfl) ?_
  obtain ⟨_, hrec, hF⟩ := ob hF
  obtain ⟨S1, hcl, hF⟩ := ob hF
  refine go_MV (r_V (rest := []) (As := []) C0 cb_X10_355 M.1 hrec (tX10_findJoining l D cy ad A hcl) (pre_R C0 M.1) hl dX10_partnerOf_1 rfl (Nat.le_of_ble_eq_true rfl) ⟨rfl, rfl⟩ ⟨Nat.le_of_ble_eq_true rfl, Nat.le_of_ble_eq_true rfl⟩ ⟨Nat.le_of_ble_eq_true rfl, Nat.le_of_ble_eq_true rfl⟩ rfl) M (fun H locs M => ?_)
  refine lv_iload_n hx hb dX10_partnerOf_4 rfl (lv_at hl 1 rfl) ?_
  refine lv_if_ne (tgt := 15) hx hb dX10_partnerOf_5 (by decide) (fun hc => ?_) (fun hc => ?_)
  · have hF := oi_f hc hF
    refine lv_iconst (v := (0 : Int32)) hx hb dX10_partnerOf_15 (by decide) ?_
    refine lv_istore_n (lv' := [(3, .int (0 : Int32)), (0, .ref (ad x0)), (1, .int x1), (2, .int x2)]) hx hb dX10_partnerOf_16 rfl hl (by decide) rfl (fun ls hl => ?_)
    exact Kh0 _ _ _ _ (Option.some.inj hF).symm _ _ _ M (lv_sub hl [1, 3, 0] rfl)
  · have hF := oi_t hc hF
    refine lv_aload_n hx hb dX10_partnerOf_8 rfl (lv_at hl 0 rfl) ?_
    obtain ⟨v9, hv, hF⟩ := ob hF
    refine k_getP C0 M.1 hv fl_X10_95 dX10_partnerOf_9 ?_
    refine lv_iload_n hx hb dX10_partnerOf_12 rfl (lv_at hl 2 rfl) ?_
    obtain ⟨v13, hv, hF⟩ := ob hF
    refine k_ld C0 M.1 hv dX10_partnerOf_13 ?_
    obtain ⟨rfl, rfl⟩ := Prod.mk.inj (Kr _ (Option.some.inj hF).symm)
    exact rt_MI C0 M hr dX10_partnerOf_14
set_option maxHeartbeats 4000000 in
set_option maxRecDepth 100000 in
theorem wX10_partnerOf_17 {p : Program} {l : Launch} {e : Env} {s : State} {m : MethodId} {args : Array Value} {below : List Frame} {meth : Method} {c : Code} {D : va_G} {cy : Nat → ClassId} (ad : Nat → Nat) (A : Nat → Prop) {S : MS} {S' : MS} {H : Heap} {locs : List Loc} {n0 : Nat} {r : Int32} {out : ((Nat × Int32 × Int32 × MS) ⊕ (Int32 × MS))} {ls : Array Slot} {x0 : Nat} {x2 : Int32} {x3 : Int32} (C0 : CX p s m args meth c RX10 cX10_partnerOf 4 D cy) (M : ST D cy ad A s.heap (ZN n0 s.heap.size) S H locs) (hr : meth.sig.returnType = some .int) (hF : bX10_partnerOf_17 S x0 x2 x3 = some out) (hl : lv_has ls 4 [(0, .ref (ad x0)), (2, .int x2), (3, .int x3)]) (Kr : ∀ r9, out = .inr r9 → r9 = (r, S')) (Kh0 : ∀ (y0 : Nat) (y1 : Int32) (y2 : Int32) (S2 : MS), out = .inl (y0, y1, y2, S2) → ∀ (H1 : Heap) (locs1 : List Loc) (ls1 : Array Slot), ST D cy ad A s.heap (ZN n0 s.heap.size) S2 H1 locs1 → lv_has ls1 4 [(0, .ref (ad y0)), (2, .int y1), (3, .int y2)] → W p l e rmX10_partnerOf s m args below meth c H1 locs1 0 0 (MQ below (QcM D cy ad A n0 S' (some (.int r))) args s 0 0 A) (F0 m 17 ls1 [])) : W p l e rmX10_partnerOf s m args below meth c H locs 0 0 (MQ below (QcM D cy ad A n0 S' (some (.int r))) args s 0 0 A) (F0 m 17 ls []) := by
  unfold bX10_partnerOf_17 at hF
  obtain ⟨hx, hb, -, hown, -, hts, -⟩ := id C0
  refine lv_iload_n hx hb dX10_partnerOf_17 rfl (lv_at hl 2 rfl) ?_
  refine lv_aload_n hx hb dX10_partnerOf_18 rfl (lv_at hl 0 rfl) ?_
  obtain ⟨v19, hv, hF⟩ := ob hF
  refine k_getP C0 M.1 hv fl_X10_68 dX10_partnerOf_19 ?_
  refine lv_iconst (v := (0 : Int32)) hx hb dX10_partnerOf_22 (by decide) ?_
  obtain ⟨v23, hv, hF⟩ := ob hF
  refine k_ld C0 M.1 hv dX10_partnerOf_23 ?_
  refine lv_icmp_ge (tgt := 45) hx hb dX10_partnerOf_24 (by decide) (fun hc => ?_) (fun hc => ?_)
  · have hF := oi_t hc hF
    refine lv_bipush (v := (-9 : Int32)) hx hb dX10_partnerOf_45 (by decide) ?_
    obtain ⟨rfl, rfl⟩ := Prod.mk.inj (Kr _ (Option.some.inj hF).symm)
    exact rt_MI C0 M hr dX10_partnerOf_47
  · have hF := oi_f hc hF
    refine lv_aload_n hx hb dX10_partnerOf_27 rfl (lv_at hl 0 rfl) ?_
    obtain ⟨v28, hv, hF⟩ := ob hF
    refine k_getP C0 M.1 hv fl_X10_95 dX10_partnerOf_28 ?_
    refine lv_iload_n hx hb dX10_partnerOf_31 rfl (lv_at hl 2 rfl) ?_
    obtain ⟨v32, hv, hF⟩ := ob hF
    refine k_ld C0 M.1 hv dX10_partnerOf_32 ?_
    refine lv_iload_n hx hb dX10_partnerOf_33 rfl (lv_at hl 1 rfl) ?_
    refine lv_icmp_ne (tgt := 39) hx hb dX10_partnerOf_34 (by decide) (fun hc => ?_) (fun hc => ?_)
    · have hF := oi_f hc hF
      obtain ⟨v39, hv, hF⟩ := ob hF
      refine lv_iinc (v := v39) (lv' := [(3, .int v39), (0, .ref (ad x0)), (2, .int x2)]) hx hb dX10_partnerOf_39 hl (k := 2) rfl (by rw [← vtI hv]; rfl) (by decide) rfl (fun ls hl => ?_)
      refine lv_goto (tgt := 17) hx hb dX10_partnerOf_42 (by decide) ?_
      exact Kh0 _ _ _ _ (Option.some.inj hF).symm _ _ _ M (lv_sub hl [1, 2, 0] rfl)
    · have hF := oi_t hc hF
      refine lv_iload_n hx hb dX10_partnerOf_37 rfl (lv_at hl 2 rfl) ?_
      obtain ⟨rfl, rfl⟩ := Prod.mk.inj (Kr _ (Option.some.inj hF).symm)
      exact rt_MI C0 M hr dX10_partnerOf_38
set_option maxHeartbeats 4000000 in
set_option maxRecDepth 100000 in
theorem tX10_partnerOf (l : Launch) (D : va_G) (cy : Nat → ClassId) (ad : Nat → Nat) (A : Nat → Prop) {S S' : MS} {a0 : Nat} {a1 : Int32} {a2 : Int32} {r : Int32} (h : fX10_partnerOf S a0 a1 a2 = some (r, S')) : Met l yX10_partnerOf [Cond.code yX10_partnerOf cX10_partnerOf 4 (some .int)] rmX10_partnerOf (PcR D cy ad A S [.ref (ad a0), .int a1, .int a2]) (QcM D cy ad A (m_n S) S' (some (.int r))) 0 0 A := by
  refine met_M (by decide +kernel) cw_X10_partnerOf (Nat.le_of_ble_eq_true rfl) ?_
  intro p e s m args below meth c ls C0 M hr hin hl
  have hl : lv_has ls 4 [(0, .ref (ad a0)), (1, .int a1), (2, .int a2)] := hl
  have key := lim_walk (step := sX10_partnerOf) (fun (q : (Nat × Int32 × Int32 × MS)) (r9 : (Int32 × MS)) => ∀ (r : Int32) (S' : MS), r9 = (r, S') → ((∀ (y0 : Nat) (y1 : Int32) (y2 : Int32) (S2 : MS), q = (y0, y1, y2, S2) → ∀ (H1 : Heap) (locs1 : List Loc) (ls1 : Array Slot), ST D cy ad A s.heap (ZN (m_n S) s.heap.size) S2 H1 locs1 → lv_has ls1 4 [(0, .ref (ad y0)), (2, .int y1), (3, .int y2)] → W p l e rmX10_partnerOf s m args below meth c H1 locs1 0 0 (MQ below (QcM D cy ad A (m_n S) S' (some (.int r))) args s 0 0 A) (F0 m 17 ls1 [])))) ?_
  · unfold fX10_partnerOf at h
    cases hs0 : bX10_partnerOf_0 S a0 a1 a2 with
    | none => rw [hs0] at h; cases h
    | some out =>
      rw [hs0] at h
      refine wX10_partnerOf_0 ad A C0 M hr hs0 hl (fun r9 hr9 => ?_) ?_
      · subst hr9; exact Option.some.inj h
      · intro y0 y1 y2 y3 hq; subst hq; exact (key _ _ h _ _ rfl) _ _ _ _ rfl
  · intro q r9 out hst hre hin9
    intro r S' er; subst er
    refine ?_
    · intro y0 y1 y2 y3 hq H1 locs1 ls1 M hl
      subst hq
      exact wX10_partnerOf_17 ad A C0 M hr hst hl hre (fun k0 k1 k2 k3 hk => (hin9 _ hk _ _ rfl) _ _ _ _ rfl)
set_option maxHeartbeats 4000000 in
set_option maxRecDepth 100000 in
theorem wX10_front_0 {p : Program} {l : Launch} {e : Env} {s : State} {m : MethodId} {args : Array Value} {below : List Frame} {meth : Method} {c : Code} {D : va_G} {cy : Nat → ClassId} (ad : Nat → Nat) (A : Nat → Prop) {S : MS} {S' : MS} {H : Heap} {locs : List Loc} {n0 : Nat} {r : Int32} {ls : Array Slot} {x0 : Nat} {x1 : Int32} {x2 : Int32} {x3 : Int32} (C0 : CX p s m args meth c RX10 cX10_front 5 D cy) (M : ST D cy ad A s.heap (ZN n0 s.heap.size) S H locs) (hr : meth.sig.returnType = some .int) (hF : bX10_front_0 S x0 x1 x2 x3 = some (r, S')) (hl : lv_has ls 5 [(0, .ref (ad x0)), (1, .int x1), (2, .int x2), (3, .int x3)]) : W p l e rmX10_front s m args below meth c H locs 0 0 (MQ below (QcM D cy ad A n0 S' (some (.int r))) args s 0 0 A) (F0 m 0 ls []) := by
  unfold bX10_front_0 at hF
  obtain ⟨hx, hb, -, hown, -, hts, -⟩ := id C0
  refine lv_iload_n hx hb dX10_front_0 rfl (lv_at hl 1 rfl) ?_
  refine lv_i2l (v := (x1.toInt64)) hx hb dX10_front_1 rfl ?_
  refine lv_lconst (v := (0 : Int64)) hx hb dX10_front_2 (by decide) ?_
  refine lv_lconst (v := (1 : Int64)) hx hb dX10_front_3 (by decide) ?_
  obtain ⟨v4, hcl, hF⟩ := ob hF
  refine go_SI (r_S (rest := []) (As := [.long (x1.toInt64), .long (0 : Int64), .long (1 : Int64)]) C0 cb_X10_156 (tX10_in l D cy ad hcl) (pre_S C0) hl dX10_front_4 rfl (Nat.le_of_ble_eq_true rfl) ⟨rfl, rfl⟩ ⟨Nat.le_of_ble_eq_true rfl, Nat.le_of_ble_eq_true rfl⟩ ⟨Nat.le_of_ble_eq_true rfl, Nat.le_of_ble_eq_true rfl⟩ rfl) ?_
  refine lv_if_ne (tgt := 13) hx hb dX10_front_7 (by decide) (fun hc => ?_) (fun hc => ?_)
  · have hF := oi_f hc hF
    refine lv_aload_n hx hb dX10_front_13 rfl (lv_at hl 0 rfl) ?_
    refine lv_iload_n hx hb dX10_front_14 rfl (lv_at hl 1 rfl) ?_
    refine lv_iload_n hx hb dX10_front_15 rfl (lv_at hl 2 rfl) ?_
    obtain ⟨_, hrec, hF⟩ := ob hF
    obtain ⟨v16, hcl, hF⟩ := ob hF
    refine go_SI (r_V (rest := []) (As := [.int x1, .int x2]) C0 cb_X10_358 M.1 hrec (tX10_noFront l D cy ad A hcl) (pre_R C0 M.1) hl dX10_front_16 rfl (Nat.le_of_ble_eq_true rfl) ⟨rfl, rfl⟩ ⟨Nat.le_of_ble_eq_true rfl, Nat.le_of_ble_eq_true rfl⟩ ⟨Nat.le_of_ble_eq_true rfl, Nat.le_of_ble_eq_true rfl⟩ rfl) ?_
    refine lv_if_eq (tgt := 24) hx hb dX10_front_19 (by decide) (fun hc => ?_) (fun hc => ?_)
    · have hF := oi_t hc hF
      refine lv_iconst (v := (5 : Int32)) hx hb dX10_front_24 (by decide) ?_
      refine lv_iload_n hx hb dX10_front_25 rfl (lv_at hl 1 rfl) ?_
      refine lv_imul hx hb dX10_front_26 ?_
      refine lv_iload_n hx hb dX10_front_27 rfl (lv_at hl 2 rfl) ?_
      refine lv_iadd hx hb dX10_front_28 ?_
      obtain ⟨v29, hv, hF⟩ := ob hF
      have hv := vtI hv
      refine vtopi hv ?_
      refine lv_istore (lv' := [(4, .int v29), (0, .ref (ad x0)), (1, .int x1), (2, .int x2), (3, .int x3)]) hx hb dX10_front_29 hl (by decide) rfl (fun ls hl => ?_)
      refine lv_iload_n hx hb dX10_front_31 rfl (lv_at hl 4 rfl) ?_
      by_cases hc0 : x3 = (0 : Int32)
      · have hF := oi_t hc0 hF
        refine lv_tableIn (tgt := 68) (off := 36) hx hb dX10_front_32 (by rw [hc0]; decide) (by rw [hc0]; decide) (by rw [hc0]; rfl) (by decide) ?_
        refine lv_aload_n hx hb dX10_front_68 rfl (lv_at hl 1 rfl) ?_
        obtain ⟨v69, hv, hF⟩ := ob hF
        refine k_getP C0 M.1 hv fl_X10_71 dX10_front_69 ?_
        refine lv_iload hx hb dX10_front_72 (lv_at hl 0 rfl) ?_
        obtain ⟨v74, hv, hF⟩ := ob hF
        refine k_ld C0 M.1 hv dX10_front_74 ?_
        obtain ⟨rfl, rfl⟩ := Prod.mk.inj (Option.some.inj hF)
        exact rt_MI C0 M hr dX10_front_75
      have hF := oi_f hc0 hF
      by_cases hc1 : x3 = (1 : Int32)
      · have hF := oi_t hc1 hF
        refine lv_tableIn (tgt := 76) (off := 44) hx hb dX10_front_32 (by rw [hc1]; decide) (by rw [hc1]; decide) (by rw [hc1]; rfl) (by decide) ?_
        refine lv_aload_n hx hb dX10_front_76 rfl (lv_at hl 1 rfl) ?_
        obtain ⟨v77, hv, hF⟩ := ob hF
        refine k_getP C0 M.1 hv fl_X10_74 dX10_front_77 ?_
        refine lv_iload hx hb dX10_front_80 (lv_at hl 0 rfl) ?_
        obtain ⟨v82, hv, hF⟩ := ob hF
        refine k_ld C0 M.1 hv dX10_front_82 ?_
        obtain ⟨rfl, rfl⟩ := Prod.mk.inj (Option.some.inj hF)
        exact rt_MI C0 M hr dX10_front_83
      have hF := oi_f hc1 hF
      by_cases hc2 : x3 = (2 : Int32)
      · have hF := oi_t hc2 hF
        refine lv_tableIn (tgt := 84) (off := 52) hx hb dX10_front_32 (by rw [hc2]; decide) (by rw [hc2]; decide) (by rw [hc2]; rfl) (by decide) ?_
        refine lv_aload_n hx hb dX10_front_84 rfl (lv_at hl 1 rfl) ?_
        obtain ⟨v85, hv, hF⟩ := ob hF
        refine k_getP C0 M.1 hv fl_X10_77 dX10_front_85 ?_
        refine lv_iload hx hb dX10_front_88 (lv_at hl 0 rfl) ?_
        obtain ⟨v90, hv, hF⟩ := ob hF
        refine k_ld C0 M.1 hv dX10_front_90 ?_
        obtain ⟨rfl, rfl⟩ := Prod.mk.inj (Option.some.inj hF)
        exact rt_MI C0 M hr dX10_front_91
      have hF := oi_f hc2 hF
      by_cases hc3 : x3 = (3 : Int32)
      · have hF := oi_t hc3 hF
        refine lv_tableIn (tgt := 92) (off := 60) hx hb dX10_front_32 (by rw [hc3]; decide) (by rw [hc3]; decide) (by rw [hc3]; rfl) (by decide) ?_
        refine lv_aload_n hx hb dX10_front_92 rfl (lv_at hl 1 rfl) ?_
        obtain ⟨v93, hv, hF⟩ := ob hF
        refine k_getP C0 M.1 hv fl_X10_80 dX10_front_93 ?_
        refine lv_iload hx hb dX10_front_96 (lv_at hl 0 rfl) ?_
        obtain ⟨v98, hv, hF⟩ := ob hF
        refine k_ld C0 M.1 hv dX10_front_98 ?_
        obtain ⟨rfl, rfl⟩ := Prod.mk.inj (Option.some.inj hF)
        exact rt_MI C0 M hr dX10_front_99
      have hF := oi_f hc3 hF
      by_cases hc4 : x3 = (4 : Int32)
      · have hF := oi_t hc4 hF
        refine lv_tableIn (tgt := 100) (off := 68) hx hb dX10_front_32 (by rw [hc4]; decide) (by rw [hc4]; decide) (by rw [hc4]; rfl) (by decide) ?_
        refine lv_aload_n hx hb dX10_front_100 rfl (lv_at hl 1 rfl) ?_
        refine lv_iload_n hx hb dX10_front_101 rfl (lv_at hl 2 rfl) ?_
        refine lv_iload_n hx hb dX10_front_102 rfl (lv_at hl 3 rfl) ?_
        obtain ⟨_, hrec, hF⟩ := ob hF
        obtain ⟨v103, S103, hcl, hF⟩ := ob2 hF
        refine go_MI (r_V (rest := []) (As := [.int x1, .int x2]) C0 cb_X10_361 M.1 hrec (tX10_partnerOf l D cy ad A hcl) (pre_R C0 M.1) hl dX10_front_103 rfl (Nat.le_of_ble_eq_true rfl) ⟨rfl, rfl⟩ ⟨Nat.le_of_ble_eq_true rfl, Nat.le_of_ble_eq_true rfl⟩ ⟨Nat.le_of_ble_eq_true rfl, Nat.le_of_ble_eq_true rfl⟩ rfl) M (fun H locs M => ?_)
        obtain ⟨rfl, rfl⟩ := Prod.mk.inj (Option.some.inj hF)
        exact rt_MI C0 M hr dX10_front_106
      have hF := oi_f hc4 hF
      refine lv_tableOut (tgt := 107) hx hb dX10_front_32 (tsw (x := x3) (n := 5) (by decide) (fun k hk => by rcases (show k = 0 ∨ k = 1 ∨ k = 2 ∨ k = 3 ∨ k = 4 by omega) with rfl | rfl | rfl | rfl | rfl <;> first | exact hc0 | exact hc1 | exact hc2 | exact hc3 | exact hc4)) (by decide) ?_
      refine lv_bipush (v := (-2 : Int32)) hx hb dX10_front_107 (by decide) ?_
      obtain ⟨rfl, rfl⟩ := Prod.mk.inj (Option.some.inj hF)
      exact rt_MI C0 M hr dX10_front_109
    · have hF := oi_f hc hF
      refine lv_iconst (v := (-1 : Int32)) hx hb dX10_front_22 (by decide) ?_
      obtain ⟨rfl, rfl⟩ := Prod.mk.inj (Option.some.inj hF)
      exact rt_MI C0 M hr dX10_front_23
  · have hF := oi_t hc hF
    refine lv_bipush (v := (-2 : Int32)) hx hb dX10_front_10 (by decide) ?_
    obtain ⟨rfl, rfl⟩ := Prod.mk.inj (Option.some.inj hF)
    exact rt_MI C0 M hr dX10_front_12
set_option maxHeartbeats 4000000 in
set_option maxRecDepth 100000 in
theorem tX10_front (l : Launch) (D : va_G) (cy : Nat → ClassId) (ad : Nat → Nat) (A : Nat → Prop) {S S' : MS} {a0 : Nat} {a1 : Int32} {a2 : Int32} {a3 : Int32} {r : Int32} (h : fX10_front S a0 a1 a2 a3 = some (r, S')) : Met l yX10_front [Cond.code yX10_front cX10_front 5 (some .int)] rmX10_front (PcR D cy ad A S [.ref (ad a0), .int a1, .int a2, .int a3]) (QcM D cy ad A (m_n S) S' (some (.int r))) 0 0 A := by
  refine met_M (by decide +kernel) cw_X10_front (Nat.le_of_ble_eq_true rfl) ?_
  intro p e s m args below meth c ls C0 M hr hin hl
  have hl : lv_has ls 5 [(0, .ref (ad a0)), (1, .int a1), (2, .int a2), (3, .int a3)] := hl
  exact wX10_front_0 ad A C0 M hr h hl
set_option maxHeartbeats 4000000 in
set_option maxRecDepth 100000 in
theorem wX10_noAsking_47 {p : Program} {l : Launch} {e : Env} {s : State} {m : MethodId} {args : Array Value} {below : List Frame} {meth : Method} {c : Code} {D : va_G} {cy : Nat → ClassId} (ad : Nat → Nat) (A : Nat → Prop) {S : MS} {S' : MS} {H : Heap} {locs : List Loc} {n0 : Nat} {r : Int32} {ls : Array Slot} {z0 : Int32} (C0 : CX p s m args meth c RX10 cX10_noAsking 3 D cy) (M : ST D cy ad A s.heap (ZN n0 s.heap.size) S H locs) (hr : meth.sig.returnType = some .int) (hF : bX10_noAsking_47 S z0 = some (r, S')) (hl : lv_has ls 3 []) : W p l e rmX10_noAsking s m args below meth c H locs 0 0 (MQ below (QcM D cy ad A n0 S' (some (.int r))) args s 0 0 A) (F0 m 47 ls [.int z0]) := by
  unfold bX10_noAsking_47 at hF
  obtain ⟨hx, hb, -, hown, -, hts, -⟩ := id C0
  obtain ⟨rfl, rfl⟩ := Prod.mk.inj (Option.some.inj hF)
  exact rt_MI C0 M hr dX10_noAsking_47
set_option maxHeartbeats 4000000 in
set_option maxRecDepth 100000 in
theorem wX10_noAsking_41 {p : Program} {l : Launch} {e : Env} {s : State} {m : MethodId} {args : Array Value} {below : List Frame} {meth : Method} {c : Code} {D : va_G} {cy : Nat → ClassId} (ad : Nat → Nat) (A : Nat → Prop) {S : MS} {S' : MS} {H : Heap} {locs : List Loc} {n0 : Nat} {r : Int32} {ls : Array Slot} (C0 : CX p s m args meth c RX10 cX10_noAsking 3 D cy) (M : ST D cy ad A s.heap (ZN n0 s.heap.size) S H locs) (hr : meth.sig.returnType = some .int) (hF : bX10_noAsking_41 S = some (r, S')) (hl : lv_has ls 3 []) : W p l e rmX10_noAsking s m args below meth c H locs 0 0 (MQ below (QcM D cy ad A n0 S' (some (.int r))) args s 0 0 A) (F0 m 41 ls []) := by
  unfold bX10_noAsking_41 at hF
  obtain ⟨hx, hb, -, hown, -, hts, -⟩ := id C0
  refine lv_bipush (v := (-3 : Int32)) hx hb dX10_noAsking_41 (by decide) ?_
  refine lv_goto (tgt := 47) hx hb dX10_noAsking_43 (by decide) ?_
  exact wX10_noAsking_47 ad A C0 M hr hF (lv_sub hl [] rfl)
set_option maxHeartbeats 4000000 in
set_option maxRecDepth 100000 in
theorem wX10_noAsking_46 {p : Program} {l : Launch} {e : Env} {s : State} {m : MethodId} {args : Array Value} {below : List Frame} {meth : Method} {c : Code} {D : va_G} {cy : Nat → ClassId} (ad : Nat → Nat) (A : Nat → Prop) {S : MS} {S' : MS} {H : Heap} {locs : List Loc} {n0 : Nat} {r : Int32} {ls : Array Slot} (C0 : CX p s m args meth c RX10 cX10_noAsking 3 D cy) (M : ST D cy ad A s.heap (ZN n0 s.heap.size) S H locs) (hr : meth.sig.returnType = some .int) (hF : bX10_noAsking_46 S = some (r, S')) (hl : lv_has ls 3 []) : W p l e rmX10_noAsking s m args below meth c H locs 0 0 (MQ below (QcM D cy ad A n0 S' (some (.int r))) args s 0 0 A) (F0 m 46 ls []) := by
  unfold bX10_noAsking_46 at hF
  obtain ⟨hx, hb, -, hown, -, hts, -⟩ := id C0
  refine lv_iconst (v := (0 : Int32)) hx hb dX10_noAsking_46 (by decide) ?_
  exact wX10_noAsking_47 ad A C0 M hr hF (lv_sub hl [] rfl)
set_option maxHeartbeats 4000000 in
set_option maxRecDepth 100000 in
theorem wX10_noAsking_0 {p : Program} {l : Launch} {e : Env} {s : State} {m : MethodId} {args : Array Value} {below : List Frame} {meth : Method} {c : Code} {D : va_G} {cy : Nat → ClassId} (ad : Nat → Nat) (A : Nat → Prop) {S : MS} {S' : MS} {H : Heap} {locs : List Loc} {n0 : Nat} {r : Int32} {ls : Array Slot} {x0 : Nat} {x1 : Int32} {x2 : Int32} (C0 : CX p s m args meth c RX10 cX10_noAsking 3 D cy) (M : ST D cy ad A s.heap (ZN n0 s.heap.size) S H locs) (hr : meth.sig.returnType = some .int) (hF : bX10_noAsking_0 S x0 x1 x2 = some (r, S')) (hl : lv_has ls 3 [(0, .ref (ad x0)), (1, .int x1), (2, .int x2)]) : W p l e rmX10_noAsking s m args below meth c H locs 0 0 (MQ below (QcM D cy ad A n0 S' (some (.int r))) args s 0 0 A) (F0 m 0 ls []) := by
  unfold bX10_noAsking_0 at hF
  obtain ⟨hx, hb, -, hown, -, hts, -⟩ := id C0
  refine lv_aload_n hx hb dX10_noAsking_0 rfl (lv_at hl 0 rfl) ?_
  refine lv_iload_n hx hb dX10_noAsking_1 rfl (lv_at hl 1 rfl) ?_
  obtain ⟨_, hrec, hF⟩ := ob hF
  obtain ⟨v2, hcl, hF⟩ := ob hF
  refine go_SI (r_V (rest := []) (As := [.int x1]) C0 cb_X10_234 M.1 hrec (tX10_noWire l D cy ad A hcl) (pre_R C0 M.1) hl dX10_noAsking_2 rfl (Nat.le_of_ble_eq_true rfl) ⟨rfl, rfl⟩ ⟨Nat.le_of_ble_eq_true rfl, Nat.le_of_ble_eq_true rfl⟩ ⟨Nat.le_of_ble_eq_true rfl, Nat.le_of_ble_eq_true rfl⟩ rfl) ?_
  refine lv_if_eq (tgt := 10) hx hb dX10_noAsking_5 (by decide) (fun hc => ?_) (fun hc => ?_)
  · have hF := oi_t hc hF
    refine lv_aload_n hx hb dX10_noAsking_10 rfl (lv_at hl 0 rfl) ?_
    obtain ⟨_, hrec, hF⟩ := ob hF
    obtain ⟨S11, hcl, hF⟩ := ob hF
    refine go_MV (r_V (rest := []) (As := []) C0 cb_X10_237 M.1 hrec (tX10_layChart l D cy ad A hcl) (pre_R C0 M.1) hl dX10_noAsking_11 rfl (Nat.le_of_ble_eq_true rfl) ⟨rfl, rfl⟩ ⟨Nat.le_of_ble_eq_true rfl, Nat.le_of_ble_eq_true rfl⟩ ⟨Nat.le_of_ble_eq_true rfl, Nat.le_of_ble_eq_true rfl⟩ rfl) M (fun H locs M => ?_)
    refine lv_aload_n hx hb dX10_noAsking_14 rfl (lv_at hl 0 rfl) ?_
    obtain ⟨v15, hv, hF⟩ := ob hF
    refine k_getP C0 M.1 hv fl_X10_49 dX10_noAsking_15 ?_
    refine lv_aload_n hx hb dX10_noAsking_18 rfl (lv_at hl 0 rfl) ?_
    obtain ⟨v19, hv, hF⟩ := ob hF
    refine k_getP C0 M.1 hv fl_X10_28 dX10_noAsking_19 ?_
    refine lv_iload_n hx hb dX10_noAsking_22 rfl (lv_at hl 1 rfl) ?_
    obtain ⟨v23, hv, hF⟩ := ob hF
    refine k_ld C0 M.1 hv dX10_noAsking_23 ?_
    obtain ⟨v24, hv, hF⟩ := ob hF
    refine k_ld C0 M.1 hv dX10_noAsking_24 ?_
    refine lv_if_lt (tgt := 41) hx hb dX10_noAsking_25 (by decide) (fun hc => ?_) (fun hc => ?_)
    · have hF := oi_t hc hF
      exact wX10_noAsking_41 ad A C0 M hr hF (lv_sub hl [] rfl)
    · have hF := oi_f hc hF
      refine lv_iload_n hx hb dX10_noAsking_28 rfl (lv_at hl 2 rfl) ?_
      refine lv_if_eq (tgt := 46) hx hb dX10_noAsking_29 (by decide) (fun hc => ?_) (fun hc => ?_)
      · have hF := oi_t hc hF
        exact wX10_noAsking_46 ad A C0 M hr hF (lv_sub hl [] rfl)
      · have hF := oi_f hc hF
        refine lv_aload_n hx hb dX10_noAsking_32 rfl (lv_at hl 0 rfl) ?_
        obtain ⟨v33, hv, hF⟩ := ob hF
        refine k_getP C0 M.1 hv fl_X10_40 dX10_noAsking_33 ?_
        refine lv_iload_n hx hb dX10_noAsking_36 rfl (lv_at hl 1 rfl) ?_
        obtain ⟨v37, hv, hF⟩ := ob hF
        refine k_ld C0 M.1 hv dX10_noAsking_37 ?_
        refine lv_if_ne (tgt := 46) hx hb dX10_noAsking_38 (by decide) (fun hc => ?_) (fun hc => ?_)
        · have hF := oi_f hc hF
          exact wX10_noAsking_46 ad A C0 M hr hF (lv_sub hl [] rfl)
        · have hF := oi_t hc hF
          exact wX10_noAsking_41 ad A C0 M hr hF (lv_sub hl [] rfl)
  · have hF := oi_f hc hF
    refine lv_iconst (v := (-1 : Int32)) hx hb dX10_noAsking_8 (by decide) ?_
    obtain ⟨rfl, rfl⟩ := Prod.mk.inj (Option.some.inj hF)
    exact rt_MI C0 M hr dX10_noAsking_9
set_option maxHeartbeats 4000000 in
set_option maxRecDepth 100000 in
theorem tX10_noAsking (l : Launch) (D : va_G) (cy : Nat → ClassId) (ad : Nat → Nat) (A : Nat → Prop) {S S' : MS} {a0 : Nat} {a1 : Int32} {a2 : Int32} {r : Int32} (h : fX10_noAsking S a0 a1 a2 = some (r, S')) : Met l yX10_noAsking [Cond.code yX10_noAsking cX10_noAsking 3 (some .int)] rmX10_noAsking (PcR D cy ad A S [.ref (ad a0), .int a1, .int a2]) (QcM D cy ad A (m_n S) S' (some (.int r))) 0 0 A := by
  refine met_M (by decide +kernel) cw_X10_noAsking (Nat.le_of_ble_eq_true rfl) ?_
  intro p e s m args below meth c ls C0 M hr hin hl
  have hl : lv_has ls 3 [(0, .ref (ad a0)), (1, .int a1), (2, .int a2)] := hl
  exact wX10_noAsking_0 ad A C0 M hr h hl
set_option maxHeartbeats 4000000 in
set_option maxRecDepth 100000 in
theorem wX10_guess_20 {p : Program} {l : Launch} {e : Env} {s : State} {m : MethodId} {args : Array Value} {below : List Frame} {meth : Method} {c : Code} {D : va_G} {cy : Nat → ClassId} (ad : Nat → Nat) (A : Nat → Prop) {S : MS} {S' : MS} {H : Heap} {locs : List Loc} {n0 : Nat} {r : Int32} {ls : Array Slot} {z0 : Int32} (C0 : CX p s m args meth c RX10 cX10_guess 3 D cy) (M : ST D cy ad A s.heap (ZN n0 s.heap.size) S H locs) (hr : meth.sig.returnType = some .int) (hF : bX10_guess_20 S z0 = some (r, S')) (hl : lv_has ls 3 []) : W p l e rmX10_guess s m args below meth c H locs 0 0 (MQ below (QcM D cy ad A n0 S' (some (.int r))) args s 0 0 A) (F0 m 20 ls [.int z0]) := by
  unfold bX10_guess_20 at hF
  obtain ⟨hx, hb, -, hown, -, hts, -⟩ := id C0
  obtain ⟨rfl, rfl⟩ := Prod.mk.inj (Option.some.inj hF)
  exact rt_MI C0 M hr dX10_guess_20
set_option maxHeartbeats 4000000 in
set_option maxRecDepth 100000 in
theorem wX10_guess_0 {p : Program} {l : Launch} {e : Env} {s : State} {m : MethodId} {args : Array Value} {below : List Frame} {meth : Method} {c : Code} {D : va_G} {cy : Nat → ClassId} (ad : Nat → Nat) (A : Nat → Prop) {S : MS} {S' : MS} {H : Heap} {locs : List Loc} {n0 : Nat} {r : Int32} {ls : Array Slot} {x0 : Nat} {x1 : Int32} (C0 : CX p s m args meth c RX10 cX10_guess 3 D cy) (M : ST D cy ad A s.heap (ZN n0 s.heap.size) S H locs) (hr : meth.sig.returnType = some .int) (hF : bX10_guess_0 S x0 x1 = some (r, S')) (hl : lv_has ls 3 [(0, .ref (ad x0)), (1, .int x1)]) : W p l e rmX10_guess s m args below meth c H locs 0 0 (MQ below (QcM D cy ad A n0 S' (some (.int r))) args s 0 0 A) (F0 m 0 ls []) := by
  unfold bX10_guess_0 at hF
  obtain ⟨hx, hb, -, hown, -, hts, -⟩ := id C0
  refine lv_aload_n hx hb dX10_guess_0 rfl (lv_at hl 0 rfl) ?_
  refine lv_iload_n hx hb dX10_guess_1 rfl (lv_at hl 1 rfl) ?_
  refine lv_iconst (v := (0 : Int32)) hx hb dX10_guess_2 (by decide) ?_
  obtain ⟨_, hrec, hF⟩ := ob hF
  obtain ⟨v3, S3, hcl, hF⟩ := ob2 hF
  refine go_MI (r_V (rest := []) (As := [.int x1, .int (0 : Int32)]) C0 cb_X10_287 M.1 hrec (tX10_noAsking l D cy ad A hcl) (pre_R C0 M.1) hl dX10_guess_3 rfl (Nat.le_of_ble_eq_true rfl) ⟨rfl, rfl⟩ ⟨Nat.le_of_ble_eq_true rfl, Nat.le_of_ble_eq_true rfl⟩ ⟨Nat.le_of_ble_eq_true rfl, Nat.le_of_ble_eq_true rfl⟩ rfl) M (fun H locs M => ?_)
  refine lv_istore_n (lv' := [(2, .int v3), (0, .ref (ad x0)), (1, .int x1)]) hx hb dX10_guess_6 rfl hl (by decide) rfl (fun ls hl => ?_)
  refine lv_iload_n hx hb dX10_guess_7 rfl (lv_at hl 0 rfl) ?_
  refine lv_if_ge (tgt := 15) hx hb dX10_guess_8 (by decide) (fun hc => ?_) (fun hc => ?_)
  · have hF := oi_t hc hF
    refine lv_aload_n hx hb dX10_guess_15 rfl (lv_at hl 1 rfl) ?_
    refine lv_iload_n hx hb dX10_guess_16 rfl (lv_at hl 2 rfl) ?_
    obtain ⟨_, hrec, hF⟩ := ob hF
    obtain ⟨v17, hcl, hF⟩ := ob hF
    refine go_SI (r_V (rest := []) (As := [.int x1]) C0 cb_X10_254 M.1 hrec (tX10_guessOf l D cy ad A hcl) (pre_R C0 M.1) hl dX10_guess_17 rfl (Nat.le_of_ble_eq_true rfl) ⟨rfl, rfl⟩ ⟨Nat.le_of_ble_eq_true rfl, Nat.le_of_ble_eq_true rfl⟩ ⟨Nat.le_of_ble_eq_true rfl, Nat.le_of_ble_eq_true rfl⟩ rfl) ?_
    exact wX10_guess_20 ad A C0 M hr hF (lv_sub hl [] rfl)
  · have hF := oi_f hc hF
    refine lv_iload_n hx hb dX10_guess_11 rfl (lv_at hl 0 rfl) ?_
    refine lv_goto (tgt := 20) hx hb dX10_guess_12 (by decide) ?_
    exact wX10_guess_20 ad A C0 M hr hF (lv_sub hl [] rfl)
set_option maxHeartbeats 4000000 in
set_option maxRecDepth 100000 in
theorem tX10_guess (l : Launch) (D : va_G) (cy : Nat → ClassId) (ad : Nat → Nat) (A : Nat → Prop) {S S' : MS} {a0 : Nat} {a1 : Int32} {r : Int32} (h : fX10_guess S a0 a1 = some (r, S')) : Met l yX10_guess [Cond.code yX10_guess cX10_guess 3 (some .int)] rmX10_guess (PcR D cy ad A S [.ref (ad a0), .int a1]) (QcM D cy ad A (m_n S) S' (some (.int r))) 0 0 A := by
  refine met_M (by decide +kernel) cw_X10_guess (Nat.le_of_ble_eq_true rfl) ?_
  intro p e s m args below meth c ls C0 M hr hin hl
  have hl : lv_has ls 3 [(0, .ref (ad a0)), (1, .int a1)] := hl
  exact wX10_guess_0 ad A C0 M hr h hl
set_option maxHeartbeats 4000000 in
set_option maxRecDepth 100000 in
theorem wX10_traced_0 {p : Program} {l : Launch} {e : Env} {s : State} {m : MethodId} {args : Array Value} {below : List Frame} {meth : Method} {c : Code} {D : va_G} {cy : Nat → ClassId} (ad : Nat → Nat) (A : Nat → Prop) {S : MS} {S' : MS} {H : Heap} {locs : List Loc} {n0 : Nat} {ls : Array Slot} {x0 : Nat} {x1 : Int32} (C0 : CX p s m args meth c RX10 cX10_traced 2 D cy) (M : ST D cy ad A s.heap (ZN n0 s.heap.size) S H locs) (hr : meth.sig.returnType = none) (hF : bX10_traced_0 S x0 x1 = some S') (hl : lv_has ls 2 [(0, .ref (ad x0)), (1, .int x1)]) : W p l e rmX10_traced s m args below meth c H locs 0 0 (MQ below (QcM D cy ad A n0 S' (none)) args s 0 0 A) (F0 m 0 ls []) := by
  unfold bX10_traced_0 at hF
  obtain ⟨hx, hb, -, hown, -, hts, -⟩ := id C0
  refine lv_aload_n hx hb dX10_traced_0 rfl (lv_at hl 0 rfl) ?_
  refine lv_bipush (v := (31 : Int32)) hx hb dX10_traced_1 (by decide) ?_
  refine lv_aload_n hx hb dX10_traced_3 rfl (lv_at hl 0 rfl) ?_
  obtain ⟨v4, hv, hF⟩ := ob hF
  refine k_getI C0 M.1 hv fl_X10_418 dX10_traced_4 ?_
  refine lv_imul hx hb dX10_traced_7 ?_
  refine lv_iload_n hx hb dX10_traced_8 rfl (lv_at hl 1 rfl) ?_
  refine lv_iadd hx hb dX10_traced_9 ?_
  obtain ⟨S10, hv, hF⟩ := ob hF
  refine k_sI C0 M hv fl_X10_418 dX10_traced_10 (fun H locs M => ?_)
  obtain rfl := (Option.some.inj hF)
  exact rt_MV C0 M hr dX10_traced_13
set_option maxHeartbeats 4000000 in
set_option maxRecDepth 100000 in
theorem tX10_traced (l : Launch) (D : va_G) (cy : Nat → ClassId) (ad : Nat → Nat) (A : Nat → Prop) {S S' : MS} {a0 : Nat} {a1 : Int32} (h : fX10_traced S a0 a1 = some S') : Met l yX10_traced [Cond.code yX10_traced cX10_traced 2 (none)] rmX10_traced (PcR D cy ad A S [.ref (ad a0), .int a1]) (QcM D cy ad A (m_n S) S' (none)) 0 0 A := by
  refine met_M (by decide +kernel) cw_X10_traced (Nat.le_of_ble_eq_true rfl) ?_
  intro p e s m args below meth c ls C0 M hr hin hl
  have hl : lv_has ls 2 [(0, .ref (ad a0)), (1, .int a1)] := hl
  exact wX10_traced_0 ad A C0 M hr h hl
set_option maxHeartbeats 4000000 in
set_option maxRecDepth 100000 in
theorem wX10_hail_45 {p : Program} {l : Launch} {e : Env} {s : State} {m : MethodId} {args : Array Value} {below : List Frame} {meth : Method} {c : Code} {D : va_G} {cy : Nat → ClassId} (ad : Nat → Nat) (A : Nat → Prop) {S : MS} {S' : MS} {H : Heap} {locs : List Loc} {n0 : Nat} {r : Int32} {ls : Array Slot} {z0 : Int32} (C0 : CX p s m args meth c RX10 cX10_hail 2 D cy) (M : ST D cy ad A s.heap (ZN n0 s.heap.size) S H locs) (hr : meth.sig.returnType = some .int) (hF : bX10_hail_45 S z0 = some (r, S')) (hl : lv_has ls 2 []) : W p l e rmX10_hail s m args below meth c H locs 0 0 (MQ below (QcM D cy ad A n0 S' (some (.int r))) args s 0 0 A) (F0 m 45 ls [.int z0]) := by
  unfold bX10_hail_45 at hF
  obtain ⟨hx, hb, -, hown, -, hts, -⟩ := id C0
  obtain ⟨rfl, rfl⟩ := Prod.mk.inj (Option.some.inj hF)
  exact rt_MI C0 M hr dX10_hail_45
set_option maxHeartbeats 4000000 in
set_option maxRecDepth 100000 in
theorem wX10_hail_26 {p : Program} {l : Launch} {e : Env} {s : State} {m : MethodId} {args : Array Value} {below : List Frame} {meth : Method} {c : Code} {D : va_G} {cy : Nat → ClassId} (ad : Nat → Nat) (A : Nat → Prop) {S : MS} {S' : MS} {H : Heap} {locs : List Loc} {n0 : Nat} {r : Int32} {ls : Array Slot} {x0 : Nat} {x1 : Int32} {z0 : Nat} {z1 : Int32} (C0 : CX p s m args meth c RX10 cX10_hail 2 D cy) (M : ST D cy ad A s.heap (ZN n0 s.heap.size) S H locs) (hr : meth.sig.returnType = some .int) (hF : bX10_hail_26 S x0 x1 z0 z1 = some (r, S')) (hl : lv_has ls 2 [(0, .ref (ad x0)), (1, .int x1)]) : W p l e rmX10_hail s m args below meth c H locs 0 0 (MQ below (QcM D cy ad A n0 S' (some (.int r))) args s 0 0 A) (F0 m 26 ls [.int z1, .ref (ad z0)]) := by
  unfold bX10_hail_26 at hF
  obtain ⟨hx, hb, -, hown, -, hts, -⟩ := id C0
  obtain ⟨_, hrec, hF⟩ := ob hF
  obtain ⟨S26, hcl, hF⟩ := ob hF
  refine go_MV (r_V (rest := []) (As := [.int z1]) C0 cb_X10_421 M.1 hrec (tX10_traced l D cy ad A hcl) (pre_R C0 M.1) hl dX10_hail_26 rfl (Nat.le_of_ble_eq_true rfl) ⟨rfl, rfl⟩ ⟨Nat.le_of_ble_eq_true rfl, Nat.le_of_ble_eq_true rfl⟩ ⟨Nat.le_of_ble_eq_true rfl, Nat.le_of_ble_eq_true rfl⟩ rfl) M (fun H locs M => ?_)
  refine lv_aload_n hx hb dX10_hail_29 rfl (lv_at hl 0 rfl) ?_
  obtain ⟨v30, hv, hF⟩ := ob hF
  refine k_getP C0 M.1 hv fl_X10_7 dX10_hail_30 ?_
  refine lv_iload_n hx hb dX10_hail_33 rfl (lv_at hl 1 rfl) ?_
  obtain ⟨v34, hv, hF⟩ := ob hF
  refine k_ld C0 M.1 hv dX10_hail_34 ?_
  refine lv_iconst (v := (2 : Int32)) hx hb dX10_hail_35 (by decide) ?_
  refine lv_icmp_ne (tgt := 44) hx hb dX10_hail_36 (by decide) (fun hc => ?_) (fun hc => ?_)
  · have hF := oi_f hc hF
    refine lv_iload_n hx hb dX10_hail_44 rfl (lv_at hl 1 rfl) ?_
    exact wX10_hail_45 ad A C0 M hr hF (lv_sub hl [] rfl)
  · have hF := oi_t hc hF
    refine lv_bipush (v := (80 : Int32)) hx hb dX10_hail_39 (by decide) ?_
    refine lv_goto (tgt := 45) hx hb dX10_hail_41 (by decide) ?_
    exact wX10_hail_45 ad A C0 M hr hF (lv_sub hl [] rfl)
set_option maxHeartbeats 4000000 in
set_option maxRecDepth 100000 in
theorem wX10_hail_0 {p : Program} {l : Launch} {e : Env} {s : State} {m : MethodId} {args : Array Value} {below : List Frame} {meth : Method} {c : Code} {D : va_G} {cy : Nat → ClassId} (ad : Nat → Nat) (A : Nat → Prop) {S : MS} {S' : MS} {H : Heap} {locs : List Loc} {n0 : Nat} {r : Int32} {ls : Array Slot} {x0 : Nat} {x1 : Int32} (C0 : CX p s m args meth c RX10 cX10_hail 2 D cy) (M : ST D cy ad A s.heap (ZN n0 s.heap.size) S H locs) (hr : meth.sig.returnType = some .int) (hF : bX10_hail_0 S x0 x1 = some (r, S')) (hl : lv_has ls 2 [(0, .ref (ad x0)), (1, .int x1)]) : W p l e rmX10_hail s m args below meth c H locs 0 0 (MQ below (QcM D cy ad A n0 S' (some (.int r))) args s 0 0 A) (F0 m 0 ls []) := by
  unfold bX10_hail_0 at hF
  obtain ⟨hx, hb, -, hown, -, hts, -⟩ := id C0
  refine lv_aload_n hx hb dX10_hail_0 rfl (lv_at hl 0 rfl) ?_
  refine lv_iload_n hx hb dX10_hail_1 rfl (lv_at hl 1 rfl) ?_
  obtain ⟨_, hrec, hF⟩ := ob hF
  obtain ⟨v2, hcl, hF⟩ := ob hF
  refine go_SI (r_V (rest := []) (As := [.int x1]) C0 cb_X10_186 M.1 hrec (tX10_noPost l D cy ad A hcl) (pre_R C0 M.1) hl dX10_hail_2 rfl (Nat.le_of_ble_eq_true rfl) ⟨rfl, rfl⟩ ⟨Nat.le_of_ble_eq_true rfl, Nat.le_of_ble_eq_true rfl⟩ ⟨Nat.le_of_ble_eq_true rfl, Nat.le_of_ble_eq_true rfl⟩ rfl) ?_
  refine lv_if_eq (tgt := 10) hx hb dX10_hail_5 (by decide) (fun hc => ?_) (fun hc => ?_)
  · have hF := oi_t hc hF
    refine lv_aload_n hx hb dX10_hail_10 rfl (lv_at hl 0 rfl) ?_
    refine lv_aload_n hx hb dX10_hail_11 rfl (lv_at hl 0 rfl) ?_
    obtain ⟨v12, hv, hF⟩ := ob hF
    refine k_getP C0 M.1 hv fl_X10_7 dX10_hail_12 ?_
    refine lv_iload_n hx hb dX10_hail_15 rfl (lv_at hl 1 rfl) ?_
    obtain ⟨v16, hv, hF⟩ := ob hF
    refine k_ld C0 M.1 hv dX10_hail_16 ?_
    refine lv_iconst (v := (2 : Int32)) hx hb dX10_hail_17 (by decide) ?_
    refine lv_icmp_ne (tgt := 25) hx hb dX10_hail_18 (by decide) (fun hc => ?_) (fun hc => ?_)
    · have hF := oi_f hc hF
      refine lv_iconst (v := (4 : Int32)) hx hb dX10_hail_25 (by decide) ?_
      exact wX10_hail_26 ad A C0 M hr hF (lv_sub hl [0, 1] rfl)
    · have hF := oi_t hc hF
      refine lv_iconst (v := (5 : Int32)) hx hb dX10_hail_21 (by decide) ?_
      refine lv_goto (tgt := 26) hx hb dX10_hail_22 (by decide) ?_
      exact wX10_hail_26 ad A C0 M hr hF (lv_sub hl [0, 1] rfl)
  · have hF := oi_f hc hF
    refine lv_iconst (v := (-1 : Int32)) hx hb dX10_hail_8 (by decide) ?_
    obtain ⟨rfl, rfl⟩ := Prod.mk.inj (Option.some.inj hF)
    exact rt_MI C0 M hr dX10_hail_9
set_option maxHeartbeats 4000000 in
set_option maxRecDepth 100000 in
theorem tX10_hail (l : Launch) (D : va_G) (cy : Nat → ClassId) (ad : Nat → Nat) (A : Nat → Prop) {S S' : MS} {a0 : Nat} {a1 : Int32} {r : Int32} (h : fX10_hail S a0 a1 = some (r, S')) : Met l yX10_hail [Cond.code yX10_hail cX10_hail 2 (some .int)] rmX10_hail (PcR D cy ad A S [.ref (ad a0), .int a1]) (QcM D cy ad A (m_n S) S' (some (.int r))) 0 0 A := by
  refine met_M (by decide +kernel) cw_X10_hail (Nat.le_of_ble_eq_true rfl) ?_
  intro p e s m args below meth c ls C0 M hr hin hl
  have hl : lv_has ls 2 [(0, .ref (ad a0)), (1, .int a1)] := hl
  exact wX10_hail_0 ad A C0 M hr h hl
set_option maxHeartbeats 4000000 in
set_option maxRecDepth 100000 in
theorem wX10_isOf_42 {p : Program} {l : Launch} {e : Env} {s : State} {m : MethodId} {args : Array Value} {below : List Frame} {meth : Method} {c : Code} {D : va_G} {cy : Nat → ClassId} (ad : Nat → Nat) (A : Nat → Prop) {r : Int32} {ls : Array Slot} {z0 : Int32} (C0 : CX p s m args meth c RX10 cX10_isOf 3 D cy) (hr : meth.sig.returnType = some .boolean) (hF : bX10_isOf_42 z0 = some r) (hl : lv_has ls 3 []) : W p l e rmX10_isOf s m args below meth c s.heap [] 0 0 (MQ below (QcS (some (.int r))) args s 0 0 (fun _ => False)) (F0 m 42 ls [.int z0]) := by
  unfold bX10_isOf_42 at hF
  obtain ⟨hx, hb, -, hown, -, hts, -⟩ := id C0
  obtain ⟨z42, hz, hF⟩ := ob hF
  have hz2 := (o_if hz).2
  refine vtopi hz2 ?_
  rw [hz2] at hz
  obtain rfl := (Option.some.inj hF)
  exact rt_SZ C0 hr hz dX10_isOf_42
set_option maxHeartbeats 4000000 in
set_option maxRecDepth 100000 in
theorem wX10_isOf_54 {p : Program} {l : Launch} {e : Env} {s : State} {m : MethodId} {args : Array Value} {below : List Frame} {meth : Method} {c : Code} {D : va_G} {cy : Nat → ClassId} (ad : Nat → Nat) (A : Nat → Prop) {r : Int32} {ls : Array Slot} {z0 : Int32} (C0 : CX p s m args meth c RX10 cX10_isOf 3 D cy) (hr : meth.sig.returnType = some .boolean) (hF : bX10_isOf_54 z0 = some r) (hl : lv_has ls 3 []) : W p l e rmX10_isOf s m args below meth c s.heap [] 0 0 (MQ below (QcS (some (.int r))) args s 0 0 (fun _ => False)) (F0 m 54 ls [.int z0]) := by
  unfold bX10_isOf_54 at hF
  obtain ⟨hx, hb, -, hown, -, hts, -⟩ := id C0
  obtain ⟨z54, hz, hF⟩ := ob hF
  have hz2 := (o_if hz).2
  refine vtopi hz2 ?_
  rw [hz2] at hz
  obtain rfl := (Option.some.inj hF)
  exact rt_SZ C0 hr hz dX10_isOf_54
set_option maxHeartbeats 4000000 in
set_option maxRecDepth 100000 in
theorem wX10_isOf_65 {p : Program} {l : Launch} {e : Env} {s : State} {m : MethodId} {args : Array Value} {below : List Frame} {meth : Method} {c : Code} {D : va_G} {cy : Nat → ClassId} (ad : Nat → Nat) (A : Nat → Prop) {r : Int32} {ls : Array Slot} {z0 : Int32} (C0 : CX p s m args meth c RX10 cX10_isOf 3 D cy) (hr : meth.sig.returnType = some .boolean) (hF : bX10_isOf_65 z0 = some r) (hl : lv_has ls 3 []) : W p l e rmX10_isOf s m args below meth c s.heap [] 0 0 (MQ below (QcS (some (.int r))) args s 0 0 (fun _ => False)) (F0 m 65 ls [.int z0]) := by
  unfold bX10_isOf_65 at hF
  obtain ⟨hx, hb, -, hown, -, hts, -⟩ := id C0
  obtain ⟨z65, hz, hF⟩ := ob hF
  have hz2 := (o_if hz).2
  refine vtopi hz2 ?_
  rw [hz2] at hz
  obtain rfl := (Option.some.inj hF)
  exact rt_SZ C0 hr hz dX10_isOf_65
set_option maxHeartbeats 4000000 in
set_option maxRecDepth 100000 in
theorem wX10_isOf_77 {p : Program} {l : Launch} {e : Env} {s : State} {m : MethodId} {args : Array Value} {below : List Frame} {meth : Method} {c : Code} {D : va_G} {cy : Nat → ClassId} (ad : Nat → Nat) (A : Nat → Prop) {r : Int32} {ls : Array Slot} {z0 : Int32} (C0 : CX p s m args meth c RX10 cX10_isOf 3 D cy) (hr : meth.sig.returnType = some .boolean) (hF : bX10_isOf_77 z0 = some r) (hl : lv_has ls 3 []) : W p l e rmX10_isOf s m args below meth c s.heap [] 0 0 (MQ below (QcS (some (.int r))) args s 0 0 (fun _ => False)) (F0 m 77 ls [.int z0]) := by
  unfold bX10_isOf_77 at hF
  obtain ⟨hx, hb, -, hown, -, hts, -⟩ := id C0
  obtain ⟨z77, hz, hF⟩ := ob hF
  have hz2 := (o_if hz).2
  refine vtopi hz2 ?_
  rw [hz2] at hz
  obtain rfl := (Option.some.inj hF)
  exact rt_SZ C0 hr hz dX10_isOf_77
set_option maxHeartbeats 4000000 in
set_option maxRecDepth 100000 in
theorem wX10_isOf_111 {p : Program} {l : Launch} {e : Env} {s : State} {m : MethodId} {args : Array Value} {below : List Frame} {meth : Method} {c : Code} {D : va_G} {cy : Nat → ClassId} (ad : Nat → Nat) (A : Nat → Prop) {r : Int32} {ls : Array Slot} {z0 : Int32} (C0 : CX p s m args meth c RX10 cX10_isOf 3 D cy) (hr : meth.sig.returnType = some .boolean) (hF : bX10_isOf_111 z0 = some r) (hl : lv_has ls 3 []) : W p l e rmX10_isOf s m args below meth c s.heap [] 0 0 (MQ below (QcS (some (.int r))) args s 0 0 (fun _ => False)) (F0 m 111 ls [.int z0]) := by
  unfold bX10_isOf_111 at hF
  obtain ⟨hx, hb, -, hown, -, hts, -⟩ := id C0
  obtain ⟨z111, hz, hF⟩ := ob hF
  have hz2 := (o_if hz).2
  refine vtopi hz2 ?_
  rw [hz2] at hz
  obtain rfl := (Option.some.inj hF)
  exact rt_SZ C0 hr hz dX10_isOf_111
set_option maxHeartbeats 4000000 in
set_option maxRecDepth 100000 in
theorem wX10_isOf_110 {p : Program} {l : Launch} {e : Env} {s : State} {m : MethodId} {args : Array Value} {below : List Frame} {meth : Method} {c : Code} {D : va_G} {cy : Nat → ClassId} (ad : Nat → Nat) (A : Nat → Prop) {r : Int32} {ls : Array Slot} (C0 : CX p s m args meth c RX10 cX10_isOf 3 D cy) (hr : meth.sig.returnType = some .boolean) (hF : bX10_isOf_110 = some r) (hl : lv_has ls 3 []) : W p l e rmX10_isOf s m args below meth c s.heap [] 0 0 (MQ below (QcS (some (.int r))) args s 0 0 (fun _ => False)) (F0 m 110 ls []) := by
  unfold bX10_isOf_110 at hF
  obtain ⟨hx, hb, -, hown, -, hts, -⟩ := id C0
  refine lv_iconst (v := (0 : Int32)) hx hb dX10_isOf_110 (by decide) ?_
  exact wX10_isOf_111 ad A C0 hr hF (lv_sub hl [] rfl)
set_option maxHeartbeats 4000000 in
set_option maxRecDepth 100000 in
theorem wX10_isOf_0 {p : Program} {l : Launch} {e : Env} {s : State} {m : MethodId} {args : Array Value} {below : List Frame} {meth : Method} {c : Code} {D : va_G} {cy : Nat → ClassId} (ad : Nat → Nat) (A : Nat → Prop) {r : Int32} {ls : Array Slot} {x0 : Int32} {x1 : Int32} {x2 : Int32} (C0 : CX p s m args meth c RX10 cX10_isOf 3 D cy) (hr : meth.sig.returnType = some .boolean) (hF : bX10_isOf_0 x0 x1 x2 = some r) (hl : lv_has ls 3 [(0, .int x0), (1, .int x1), (2, .int x2)]) : W p l e rmX10_isOf s m args below meth c s.heap [] 0 0 (MQ below (QcS (some (.int r))) args s 0 0 (fun _ => False)) (F0 m 0 ls []) := by
  unfold bX10_isOf_0 at hF
  obtain ⟨hx, hb, -, hown, -, hts, -⟩ := id C0
  refine lv_iload_n hx hb dX10_isOf_0 rfl (lv_at hl 0 rfl) ?_
  by_cases hc0 : x0 = (0 : Int32)
  · have hF := oi_t hc0 hF
    refine lv_tableIn (tgt := 32) (off := 31) hx hb dX10_isOf_1 (by rw [hc0]; decide) (by rw [hc0]; decide) (by rw [hc0]; rfl) (by decide) ?_
    refine lv_iload_n hx hb dX10_isOf_32 rfl (lv_at hl 2 rfl) ?_
    refine lv_iconst (v := (4 : Int32)) hx hb dX10_isOf_33 (by decide) ?_
    refine lv_icmp_ge (tgt := 41) hx hb dX10_isOf_34 (by decide) (fun hc => ?_) (fun hc => ?_)
    · have hF := oi_t hc hF
      refine lv_iconst (v := (0 : Int32)) hx hb dX10_isOf_41 (by decide) ?_
      exact wX10_isOf_42 ad A C0 hr hF (lv_sub hl [] rfl)
    · have hF := oi_f hc hF
      refine lv_iconst (v := (1 : Int32)) hx hb dX10_isOf_37 (by decide) ?_
      refine lv_goto (tgt := 42) hx hb dX10_isOf_38 (by decide) ?_
      exact wX10_isOf_42 ad A C0 hr hF (lv_sub hl [] rfl)
  have hF := oi_f hc0 hF
  by_cases hc1 : x0 = (1 : Int32)
  · have hF := oi_t hc1 hF
    refine lv_tableIn (tgt := 43) (off := 42) hx hb dX10_isOf_1 (by rw [hc1]; decide) (by rw [hc1]; decide) (by rw [hc1]; rfl) (by decide) ?_
    refine lv_iload_n hx hb dX10_isOf_43 rfl (lv_at hl 2 rfl) ?_
    refine lv_bipush (v := (7 : Int32)) hx hb dX10_isOf_44 (by decide) ?_
    refine lv_icmp_le (tgt := 53) hx hb dX10_isOf_46 (by decide) (fun hc => ?_) (fun hc => ?_)
    · have hF := oi_t hc hF
      refine lv_iconst (v := (0 : Int32)) hx hb dX10_isOf_53 (by decide) ?_
      exact wX10_isOf_54 ad A C0 hr hF (lv_sub hl [] rfl)
    · have hF := oi_f hc hF
      refine lv_iconst (v := (1 : Int32)) hx hb dX10_isOf_49 (by decide) ?_
      refine lv_goto (tgt := 54) hx hb dX10_isOf_50 (by decide) ?_
      exact wX10_isOf_54 ad A C0 hr hF (lv_sub hl [] rfl)
  have hF := oi_f hc1 hF
  by_cases hc2 : x0 = (2 : Int32)
  · have hF := oi_t hc2 hF
    refine lv_tableIn (tgt := 55) (off := 54) hx hb dX10_isOf_1 (by rw [hc2]; decide) (by rw [hc2]; decide) (by rw [hc2]; rfl) (by decide) ?_
    refine lv_iload_n hx hb dX10_isOf_55 rfl (lv_at hl 1 rfl) ?_
    refine lv_iconst (v := (4 : Int32)) hx hb dX10_isOf_56 (by decide) ?_
    refine lv_icmp_ge (tgt := 64) hx hb dX10_isOf_57 (by decide) (fun hc => ?_) (fun hc => ?_)
    · have hF := oi_t hc hF
      refine lv_iconst (v := (0 : Int32)) hx hb dX10_isOf_64 (by decide) ?_
      exact wX10_isOf_65 ad A C0 hr hF (lv_sub hl [] rfl)
    · have hF := oi_f hc hF
      refine lv_iconst (v := (1 : Int32)) hx hb dX10_isOf_60 (by decide) ?_
      refine lv_goto (tgt := 65) hx hb dX10_isOf_61 (by decide) ?_
      exact wX10_isOf_65 ad A C0 hr hF (lv_sub hl [] rfl)
  have hF := oi_f hc2 hF
  by_cases hc3 : x0 = (3 : Int32)
  · have hF := oi_t hc3 hF
    refine lv_tableIn (tgt := 66) (off := 65) hx hb dX10_isOf_1 (by rw [hc3]; decide) (by rw [hc3]; decide) (by rw [hc3]; rfl) (by decide) ?_
    refine lv_iload_n hx hb dX10_isOf_66 rfl (lv_at hl 1 rfl) ?_
    refine lv_bipush (v := (7 : Int32)) hx hb dX10_isOf_67 (by decide) ?_
    refine lv_icmp_le (tgt := 76) hx hb dX10_isOf_69 (by decide) (fun hc => ?_) (fun hc => ?_)
    · have hF := oi_t hc hF
      refine lv_iconst (v := (0 : Int32)) hx hb dX10_isOf_76 (by decide) ?_
      exact wX10_isOf_77 ad A C0 hr hF (lv_sub hl [] rfl)
    · have hF := oi_f hc hF
      refine lv_iconst (v := (1 : Int32)) hx hb dX10_isOf_72 (by decide) ?_
      refine lv_goto (tgt := 77) hx hb dX10_isOf_73 (by decide) ?_
      exact wX10_isOf_77 ad A C0 hr hF (lv_sub hl [] rfl)
  have hF := oi_f hc3 hF
  refine lv_tableOut (tgt := 78) hx hb dX10_isOf_1 (tsw (x := x0) (n := 4) (by decide) (fun k hk => by rcases (show k = 0 ∨ k = 1 ∨ k = 2 ∨ k = 3 by omega) with rfl | rfl | rfl | rfl <;> first | exact hc0 | exact hc1 | exact hc2 | exact hc3)) (by decide) ?_
  refine lv_iload_n hx hb dX10_isOf_78 rfl (lv_at hl 1 rfl) ?_
  refine lv_i2l (v := (x1.toInt64)) hx hb dX10_isOf_79 rfl ?_
  refine lv_ldc2 (v := (4 : Int64)) hx hb hown (hts _ (uw_of 1380 (by decide +kernel) rfl)) dX10_isOf_80 ?_
  refine lv_ldc2 (v := (7 : Int64)) hx hb hown (hts _ (uw_of 1588 (by decide +kernel) rfl)) dX10_isOf_83 ?_
  obtain ⟨v86, hcl, hF⟩ := ob hF
  refine go_SI (r_S (rest := []) (As := [.long (x1.toInt64), .long (4 : Int64), .long (7 : Int64)]) C0 cb_X10_156 (tX10_in l D cy ad hcl) (pre_S C0) hl dX10_isOf_86 rfl (Nat.le_of_ble_eq_true rfl) ⟨rfl, rfl⟩ ⟨Nat.le_of_ble_eq_true rfl, Nat.le_of_ble_eq_true rfl⟩ ⟨Nat.le_of_ble_eq_true rfl, Nat.le_of_ble_eq_true rfl⟩ rfl) ?_
  refine lv_if_eq (tgt := 110) hx hb dX10_isOf_89 (by decide) (fun hc => ?_) (fun hc => ?_)
  · have hF := oi_t hc hF
    exact wX10_isOf_110 ad A C0 hr hF (lv_sub hl [] rfl)
  · have hF := oi_f hc hF
    refine lv_iload_n hx hb dX10_isOf_92 rfl (lv_at hl 2 rfl) ?_
    refine lv_i2l (v := (x2.toInt64)) hx hb dX10_isOf_93 rfl ?_
    refine lv_ldc2 (v := (4 : Int64)) hx hb hown (hts _ (uw_of 1380 (by decide +kernel) rfl)) dX10_isOf_94 ?_
    refine lv_ldc2 (v := (7 : Int64)) hx hb hown (hts _ (uw_of 1588 (by decide +kernel) rfl)) dX10_isOf_97 ?_
    obtain ⟨v100, hcl, hF⟩ := ob hF
    refine go_SI (r_S (rest := []) (As := [.long (x2.toInt64), .long (4 : Int64), .long (7 : Int64)]) C0 cb_X10_156 (tX10_in l D cy ad hcl) (pre_S C0) hl dX10_isOf_100 rfl (Nat.le_of_ble_eq_true rfl) ⟨rfl, rfl⟩ ⟨Nat.le_of_ble_eq_true rfl, Nat.le_of_ble_eq_true rfl⟩ ⟨Nat.le_of_ble_eq_true rfl, Nat.le_of_ble_eq_true rfl⟩ rfl) ?_
    refine lv_if_eq (tgt := 110) hx hb dX10_isOf_103 (by decide) (fun hc => ?_) (fun hc => ?_)
    · have hF := oi_t hc hF
      exact wX10_isOf_110 ad A C0 hr hF (lv_sub hl [] rfl)
    · have hF := oi_f hc hF
      refine lv_iconst (v := (1 : Int32)) hx hb dX10_isOf_106 (by decide) ?_
      refine lv_goto (tgt := 111) hx hb dX10_isOf_107 (by decide) ?_
      exact wX10_isOf_111 ad A C0 hr hF (lv_sub hl [] rfl)
set_option maxHeartbeats 4000000 in
set_option maxRecDepth 100000 in
theorem tX10_isOf (l : Launch) (D : va_G) (cy : Nat → ClassId) (ad : Nat → Nat) {a0 : Int32} {a1 : Int32} {a2 : Int32} {r : Int32} (h : fX10_isOf a0 a1 a2 = some r) : Met l yX10_isOf [Cond.code yX10_isOf cX10_isOf 3 (some .boolean)] rmX10_isOf (PcS D cy [.int a0, .int a1, .int a2]) (QcS (some (.int r))) 0 0 (fun _ => False) := by
  refine met_S (by decide +kernel) cw_X10_isOf (Nat.le_of_ble_eq_true rfl) ?_
  intro p e s m args below meth c ls C0 hr hl
  have hl : lv_has ls 3 [(0, .int a0), (1, .int a1), (2, .int a2)] := hl
  exact wX10_isOf_0 ad (fun _ => False) C0 hr h hl
set_option maxHeartbeats 4000000 in
set_option maxRecDepth 100000 in
theorem wX10_isTrue_0 {p : Program} {l : Launch} {e : Env} {s : State} {m : MethodId} {args : Array Value} {below : List Frame} {meth : Method} {c : Code} {D : va_G} {cy : Nat → ClassId} (ad : Nat → Nat) (A : Nat → Prop) {S : MS} {r : Int32} {out : ((Nat × Int32 × Int32 × Int32 × Int32) ⊕ Int32)} {ls : Array Slot} {x0 : Nat} {x1 : Int32} (C0 : CX p s m args meth c RX10 cX10_isTrue 6 D cy) (M : MW D cy ad A S s.heap) (hr : meth.sig.returnType = some .boolean) (hF : bX10_isTrue_0 S x0 x1 = some out) (hl : lv_has ls 6 [(0, .ref (ad x0)), (1, .int x1)]) (Kr : ∀ r9, out = .inr r9 → r9 = r) (Kh0 : ∀ (y0 : Nat) (y1 : Int32) (y2 : Int32) (y3 : Int32) (y4 : Int32), out = .inl (y0, y1, y2, y3, y4) → ∀ (ls1 : Array Slot), lv_has ls1 6 [(0, .ref (ad y0)), (1, .int y1), (2, .int y2), (3, .int y3), (4, .int y4)] → W p l e rmX10_isTrue s m args below meth c s.heap [] 0 0 (MQ below (QcS (some (.int r))) args s 0 0 (fun _ => False)) (F0 m 7 ls1 [])) : W p l e rmX10_isTrue s m args below meth c s.heap [] 0 0 (MQ below (QcS (some (.int r))) args s 0 0 (fun _ => False)) (F0 m 0 ls []) := by
  unfold bX10_isTrue_0 at hF
  obtain ⟨hx, hb, -, hown, -, hts, -⟩ := id C0
  refine lv_iconst (v := (0 : Int32)) hx hb dX10_isTrue_0 (by decide) ?_
  refine lv_istore_n (lv' := [(2, .int (0 : Int32)), (0, .ref (ad x0)), (1, .int x1)]) hx hb dX10_isTrue_1 rfl hl (by decide) rfl (fun ls hl => ?_)
  refine lv_iconst (v := (1 : Int32)) hx hb dX10_isTrue_2 (by decide) ?_
  refine lv_istore_n (lv' := [(3, .int (1 : Int32)), (2, .int (0 : Int32)), (0, .ref (ad x0)), (1, .int x1)]) hx hb dX10_isTrue_3 rfl hl (by decide) rfl (fun ls hl => ?_)
  refine lv_iconst (v := (0 : Int32)) hx hb dX10_isTrue_4 (by decide) ?_
  refine lv_istore (lv' := [(4, .int (0 : Int32)), (3, .int (1 : Int32)), (2, .int (0 : Int32)), (0, .ref (ad x0)), (1, .int x1)]) hx hb dX10_isTrue_5 hl (by decide) rfl (fun ls hl => ?_)
  exact Kh0 _ _ _ _ _ (Option.some.inj hF).symm _ (lv_sub hl [3, 4, 2, 1, 0] rfl)
set_option maxHeartbeats 4000000 in
set_option maxRecDepth 100000 in
theorem wX10_isTrue_99 {p : Program} {l : Launch} {e : Env} {s : State} {m : MethodId} {args : Array Value} {below : List Frame} {meth : Method} {c : Code} {D : va_G} {cy : Nat → ClassId} (ad : Nat → Nat) (A : Nat → Prop) {S : MS} {r : Int32} {out : ((Nat × Int32 × Int32 × Int32 × Int32) ⊕ Int32)} {ls : Array Slot} {x0 : Nat} {x1 : Int32} {x2 : Int32} {x3 : Int32} {x4 : Int32} (C0 : CX p s m args meth c RX10 cX10_isTrue 6 D cy) (M : MW D cy ad A S s.heap) (hr : meth.sig.returnType = some .boolean) (hF : bX10_isTrue_99 S x0 x1 x2 x3 x4 = some out) (hl : lv_has ls 6 [(0, .ref (ad x0)), (1, .int x1), (2, .int x2), (3, .int x3), (4, .int x4)]) (Kr : ∀ r9, out = .inr r9 → r9 = r) (Kh0 : ∀ (y0 : Nat) (y1 : Int32) (y2 : Int32) (y3 : Int32) (y4 : Int32), out = .inl (y0, y1, y2, y3, y4) → ∀ (ls1 : Array Slot), lv_has ls1 6 [(0, .ref (ad y0)), (1, .int y1), (2, .int y2), (3, .int y3), (4, .int y4)] → W p l e rmX10_isTrue s m args below meth c s.heap [] 0 0 (MQ below (QcS (some (.int r))) args s 0 0 (fun _ => False)) (F0 m 7 ls1 [])) : W p l e rmX10_isTrue s m args below meth c s.heap [] 0 0 (MQ below (QcS (some (.int r))) args s 0 0 (fun _ => False)) (F0 m 99 ls []) := by
  unfold bX10_isTrue_99 at hF
  obtain ⟨hx, hb, -, hown, -, hts, -⟩ := id C0
  obtain ⟨v99, hv, hF⟩ := ob hF
  refine lv_iinc (v := v99) (lv' := [(4, .int v99), (0, .ref (ad x0)), (1, .int x1), (2, .int x2), (3, .int x3)]) hx hb dX10_isTrue_99 hl (k := 4) rfl (by rw [← vtI hv]; rfl) (by decide) rfl (fun ls hl => ?_)
  refine lv_goto (tgt := 7) hx hb dX10_isTrue_102 (by decide) ?_
  exact Kh0 _ _ _ _ _ (Option.some.inj hF).symm _ (lv_sub hl [1, 2, 3, 4, 0] rfl)
set_option maxHeartbeats 4000000 in
set_option maxRecDepth 100000 in
theorem wX10_isTrue_98 {p : Program} {l : Launch} {e : Env} {s : State} {m : MethodId} {args : Array Value} {below : List Frame} {meth : Method} {c : Code} {D : va_G} {cy : Nat → ClassId} (ad : Nat → Nat) (A : Nat → Prop) {S : MS} {r : Int32} {out : ((Nat × Int32 × Int32 × Int32 × Int32) ⊕ Int32)} {ls : Array Slot} {x0 : Nat} {x1 : Int32} {x2 : Int32} {x4 : Int32} {z0 : Int32} (C0 : CX p s m args meth c RX10 cX10_isTrue 6 D cy) (M : MW D cy ad A S s.heap) (hr : meth.sig.returnType = some .boolean) (hF : bX10_isTrue_98 S x0 x1 x2 x4 z0 = some out) (hl : lv_has ls 6 [(0, .ref (ad x0)), (1, .int x1), (2, .int x2), (4, .int x4)]) (Kr : ∀ r9, out = .inr r9 → r9 = r) (Kh0 : ∀ (y0 : Nat) (y1 : Int32) (y2 : Int32) (y3 : Int32) (y4 : Int32), out = .inl (y0, y1, y2, y3, y4) → ∀ (ls1 : Array Slot), lv_has ls1 6 [(0, .ref (ad y0)), (1, .int y1), (2, .int y2), (3, .int y3), (4, .int y4)] → W p l e rmX10_isTrue s m args below meth c s.heap [] 0 0 (MQ below (QcS (some (.int r))) args s 0 0 (fun _ => False)) (F0 m 7 ls1 [])) : W p l e rmX10_isTrue s m args below meth c s.heap [] 0 0 (MQ below (QcS (some (.int r))) args s 0 0 (fun _ => False)) (F0 m 98 ls [.int z0]) := by
  unfold bX10_isTrue_98 at hF
  obtain ⟨hx, hb, -, hown, -, hts, -⟩ := id C0
  refine lv_istore_n (lv' := [(3, .int z0), (0, .ref (ad x0)), (1, .int x1), (2, .int x2), (4, .int x4)]) hx hb dX10_isTrue_98 rfl hl (by decide) rfl (fun ls hl => ?_)
  exact wX10_isTrue_99 ad A C0 M hr hF (lv_sub hl [1, 2, 3, 0, 4] rfl) Kr Kh0
set_option maxHeartbeats 4000000 in
set_option maxRecDepth 100000 in
theorem wX10_isTrue_93 {p : Program} {l : Launch} {e : Env} {s : State} {m : MethodId} {args : Array Value} {below : List Frame} {meth : Method} {c : Code} {D : va_G} {cy : Nat → ClassId} (ad : Nat → Nat) (A : Nat → Prop) {S : MS} {r : Int32} {out : ((Nat × Int32 × Int32 × Int32 × Int32) ⊕ Int32)} {ls : Array Slot} {x0 : Nat} {x1 : Int32} {x2 : Int32} {x4 : Int32} (C0 : CX p s m args meth c RX10 cX10_isTrue 6 D cy) (M : MW D cy ad A S s.heap) (hr : meth.sig.returnType = some .boolean) (hF : bX10_isTrue_93 S x0 x1 x2 x4 = some out) (hl : lv_has ls 6 [(0, .ref (ad x0)), (1, .int x1), (2, .int x2), (4, .int x4)]) (Kr : ∀ r9, out = .inr r9 → r9 = r) (Kh0 : ∀ (y0 : Nat) (y1 : Int32) (y2 : Int32) (y3 : Int32) (y4 : Int32), out = .inl (y0, y1, y2, y3, y4) → ∀ (ls1 : Array Slot), lv_has ls1 6 [(0, .ref (ad y0)), (1, .int y1), (2, .int y2), (3, .int y3), (4, .int y4)] → W p l e rmX10_isTrue s m args below meth c s.heap [] 0 0 (MQ below (QcS (some (.int r))) args s 0 0 (fun _ => False)) (F0 m 7 ls1 [])) : W p l e rmX10_isTrue s m args below meth c s.heap [] 0 0 (MQ below (QcS (some (.int r))) args s 0 0 (fun _ => False)) (F0 m 93 ls []) := by
  unfold bX10_isTrue_93 at hF
  obtain ⟨hx, hb, -, hown, -, hts, -⟩ := id C0
  refine lv_iconst (v := (1 : Int32)) hx hb dX10_isTrue_93 (by decide) ?_
  refine lv_goto (tgt := 98) hx hb dX10_isTrue_94 (by decide) ?_
  exact wX10_isTrue_98 ad A C0 M hr hF (lv_sub hl [0, 1, 2, 3] rfl) Kr Kh0
set_option maxHeartbeats 4000000 in
set_option maxRecDepth 100000 in
theorem wX10_isTrue_97 {p : Program} {l : Launch} {e : Env} {s : State} {m : MethodId} {args : Array Value} {below : List Frame} {meth : Method} {c : Code} {D : va_G} {cy : Nat → ClassId} (ad : Nat → Nat) (A : Nat → Prop) {S : MS} {r : Int32} {out : ((Nat × Int32 × Int32 × Int32 × Int32) ⊕ Int32)} {ls : Array Slot} {x0 : Nat} {x1 : Int32} {x2 : Int32} {x4 : Int32} (C0 : CX p s m args meth c RX10 cX10_isTrue 6 D cy) (M : MW D cy ad A S s.heap) (hr : meth.sig.returnType = some .boolean) (hF : bX10_isTrue_97 S x0 x1 x2 x4 = some out) (hl : lv_has ls 6 [(0, .ref (ad x0)), (1, .int x1), (2, .int x2), (4, .int x4)]) (Kr : ∀ r9, out = .inr r9 → r9 = r) (Kh0 : ∀ (y0 : Nat) (y1 : Int32) (y2 : Int32) (y3 : Int32) (y4 : Int32), out = .inl (y0, y1, y2, y3, y4) → ∀ (ls1 : Array Slot), lv_has ls1 6 [(0, .ref (ad y0)), (1, .int y1), (2, .int y2), (3, .int y3), (4, .int y4)] → W p l e rmX10_isTrue s m args below meth c s.heap [] 0 0 (MQ below (QcS (some (.int r))) args s 0 0 (fun _ => False)) (F0 m 7 ls1 [])) : W p l e rmX10_isTrue s m args below meth c s.heap [] 0 0 (MQ below (QcS (some (.int r))) args s 0 0 (fun _ => False)) (F0 m 97 ls []) := by
  unfold bX10_isTrue_97 at hF
  obtain ⟨hx, hb, -, hown, -, hts, -⟩ := id C0
  refine lv_iconst (v := (0 : Int32)) hx hb dX10_isTrue_97 (by decide) ?_
  exact wX10_isTrue_98 ad A C0 M hr hF (lv_sub hl [0, 1, 2, 3] rfl) Kr Kh0
set_option maxHeartbeats 4000000 in
set_option maxRecDepth 100000 in
theorem wX10_isTrue_118 {p : Program} {l : Launch} {e : Env} {s : State} {m : MethodId} {args : Array Value} {below : List Frame} {meth : Method} {c : Code} {D : va_G} {cy : Nat → ClassId} (ad : Nat → Nat) (A : Nat → Prop) {S : MS} {r : Int32} {out : ((Nat × Int32 × Int32 × Int32 × Int32) ⊕ Int32)} {ls : Array Slot} {z0 : Int32} (C0 : CX p s m args meth c RX10 cX10_isTrue 6 D cy) (M : MW D cy ad A S s.heap) (hr : meth.sig.returnType = some .boolean) (hF : bX10_isTrue_118 S z0 = some out) (hl : lv_has ls 6 []) (Kr : ∀ r9, out = .inr r9 → r9 = r) (Kh0 : ∀ (y0 : Nat) (y1 : Int32) (y2 : Int32) (y3 : Int32) (y4 : Int32), out = .inl (y0, y1, y2, y3, y4) → ∀ (ls1 : Array Slot), lv_has ls1 6 [(0, .ref (ad y0)), (1, .int y1), (2, .int y2), (3, .int y3), (4, .int y4)] → W p l e rmX10_isTrue s m args below meth c s.heap [] 0 0 (MQ below (QcS (some (.int r))) args s 0 0 (fun _ => False)) (F0 m 7 ls1 [])) : W p l e rmX10_isTrue s m args below meth c s.heap [] 0 0 (MQ below (QcS (some (.int r))) args s 0 0 (fun _ => False)) (F0 m 118 ls [.int z0]) := by
  unfold bX10_isTrue_118 at hF
  obtain ⟨hx, hb, -, hown, -, hts, -⟩ := id C0
  obtain ⟨z118, hz, hF⟩ := ob hF
  have hz2 := (o_if hz).2
  refine vtopi hz2 ?_
  rw [hz2] at hz
  obtain rfl := (Kr _ (Option.some.inj hF).symm)
  exact rt_SZ C0 hr hz dX10_isTrue_118
set_option maxHeartbeats 4000000 in
set_option maxRecDepth 100000 in
theorem wX10_isTrue_117 {p : Program} {l : Launch} {e : Env} {s : State} {m : MethodId} {args : Array Value} {below : List Frame} {meth : Method} {c : Code} {D : va_G} {cy : Nat → ClassId} (ad : Nat → Nat) (A : Nat → Prop) {S : MS} {r : Int32} {out : ((Nat × Int32 × Int32 × Int32 × Int32) ⊕ Int32)} {ls : Array Slot} (C0 : CX p s m args meth c RX10 cX10_isTrue 6 D cy) (M : MW D cy ad A S s.heap) (hr : meth.sig.returnType = some .boolean) (hF : bX10_isTrue_117 S = some out) (hl : lv_has ls 6 []) (Kr : ∀ r9, out = .inr r9 → r9 = r) (Kh0 : ∀ (y0 : Nat) (y1 : Int32) (y2 : Int32) (y3 : Int32) (y4 : Int32), out = .inl (y0, y1, y2, y3, y4) → ∀ (ls1 : Array Slot), lv_has ls1 6 [(0, .ref (ad y0)), (1, .int y1), (2, .int y2), (3, .int y3), (4, .int y4)] → W p l e rmX10_isTrue s m args below meth c s.heap [] 0 0 (MQ below (QcS (some (.int r))) args s 0 0 (fun _ => False)) (F0 m 7 ls1 [])) : W p l e rmX10_isTrue s m args below meth c s.heap [] 0 0 (MQ below (QcS (some (.int r))) args s 0 0 (fun _ => False)) (F0 m 117 ls []) := by
  unfold bX10_isTrue_117 at hF
  obtain ⟨hx, hb, -, hown, -, hts, -⟩ := id C0
  refine lv_iconst (v := (0 : Int32)) hx hb dX10_isTrue_117 (by decide) ?_
  exact wX10_isTrue_118 ad A C0 M hr hF (lv_sub hl [] rfl) Kr Kh0
set_option maxHeartbeats 4000000 in
set_option maxRecDepth 100000 in
theorem wX10_isTrue_7 {p : Program} {l : Launch} {e : Env} {s : State} {m : MethodId} {args : Array Value} {below : List Frame} {meth : Method} {c : Code} {D : va_G} {cy : Nat → ClassId} (ad : Nat → Nat) (A : Nat → Prop) {S : MS} {r : Int32} {out : ((Nat × Int32 × Int32 × Int32 × Int32) ⊕ Int32)} {ls : Array Slot} {x0 : Nat} {x1 : Int32} {x2 : Int32} {x3 : Int32} {x4 : Int32} (C0 : CX p s m args meth c RX10 cX10_isTrue 6 D cy) (M : MW D cy ad A S s.heap) (hr : meth.sig.returnType = some .boolean) (hF : bX10_isTrue_7 S x0 x1 x2 x3 x4 = some out) (hl : lv_has ls 6 [(0, .ref (ad x0)), (1, .int x1), (2, .int x2), (3, .int x3), (4, .int x4)]) (Kr : ∀ r9, out = .inr r9 → r9 = r) (Kh0 : ∀ (y0 : Nat) (y1 : Int32) (y2 : Int32) (y3 : Int32) (y4 : Int32), out = .inl (y0, y1, y2, y3, y4) → ∀ (ls1 : Array Slot), lv_has ls1 6 [(0, .ref (ad y0)), (1, .int y1), (2, .int y2), (3, .int y3), (4, .int y4)] → W p l e rmX10_isTrue s m args below meth c s.heap [] 0 0 (MQ below (QcS (some (.int r))) args s 0 0 (fun _ => False)) (F0 m 7 ls1 [])) : W p l e rmX10_isTrue s m args below meth c s.heap [] 0 0 (MQ below (QcS (some (.int r))) args s 0 0 (fun _ => False)) (F0 m 7 ls []) := by
  unfold bX10_isTrue_7 at hF
  obtain ⟨hx, hb, -, hown, -, hts, -⟩ := id C0
  refine lv_iload hx hb dX10_isTrue_7 (lv_at hl 4 rfl) ?_
  refine lv_sipush (v := (144 : Int32)) hx hb dX10_isTrue_9 (by decide) ?_
  refine lv_icmp_ge (tgt := 105) hx hb dX10_isTrue_12 (by decide) (fun hc => ?_) (fun hc => ?_)
  · have hF := oi_t hc hF
    refine lv_iload_n hx hb dX10_isTrue_105 rfl (lv_at hl 2 rfl) ?_
    refine lv_if_eq (tgt := 117) hx hb dX10_isTrue_106 (by decide) (fun hc => ?_) (fun hc => ?_)
    · have hF := oi_t hc hF
      exact wX10_isTrue_117 ad A C0 M hr hF (lv_sub hl [] rfl) Kr Kh0
    · have hF := oi_f hc hF
      refine lv_iload_n hx hb dX10_isTrue_109 rfl (lv_at hl 3 rfl) ?_
      refine lv_if_eq (tgt := 117) hx hb dX10_isTrue_110 (by decide) (fun hc => ?_) (fun hc => ?_)
      · have hF := oi_t hc hF
        exact wX10_isTrue_117 ad A C0 M hr hF (lv_sub hl [] rfl) Kr Kh0
      · have hF := oi_f hc hF
        refine lv_iconst (v := (1 : Int32)) hx hb dX10_isTrue_113 (by decide) ?_
        refine lv_goto (tgt := 118) hx hb dX10_isTrue_114 (by decide) ?_
        exact wX10_isTrue_118 ad A C0 M hr hF (lv_sub hl [] rfl) Kr Kh0
  · have hF := oi_f hc hF
    refine lv_aload_n hx hb dX10_isTrue_15 rfl (lv_at hl 0 rfl) ?_
    obtain ⟨v16, hv, hF⟩ := ob hF
    refine k_getP C0 M hv fl_X10_55 dX10_isTrue_16 ?_
    refine lv_iload hx hb dX10_isTrue_19 (lv_at hl 4 rfl) ?_
    obtain ⟨v21, hv, hF⟩ := ob hF
    refine k_ld C0 M hv dX10_isTrue_21 ?_
    refine lv_istore (lv' := [(5, .int v21), (0, .ref (ad x0)), (1, .int x1), (2, .int x2), (3, .int x3), (4, .int x4)]) hx hb dX10_isTrue_22 hl (by decide) rfl (fun ls hl => ?_)
    refine lv_iload hx hb dX10_isTrue_24 (lv_at hl 0 rfl) ?_
    refine lv_bipush (v := (-9 : Int32)) hx hb dX10_isTrue_26 (by decide) ?_
    refine lv_icmp_eq (tgt := 99) hx hb dX10_isTrue_28 (by decide) (fun hc => ?_) (fun hc => ?_)
    · have hF := oi_t hc hF
      exact wX10_isTrue_99 ad A C0 M hr hF (lv_sub hl [1, 2, 3, 4, 5] rfl) Kr Kh0
    · have hF := oi_f hc hF
      refine lv_aload_n hx hb dX10_isTrue_31 rfl (lv_at hl 1 rfl) ?_
      obtain ⟨v32, hv, hF⟩ := ob hF
      refine k_getP C0 M hv fl_X10_107 dX10_isTrue_32 ?_
      refine lv_iload_n hx hb dX10_isTrue_35 rfl (lv_at hl 2 rfl) ?_
      obtain ⟨v36, hv, hF⟩ := ob hF
      refine k_ld C0 M hv dX10_isTrue_36 ?_
      refine lv_iload hx hb dX10_isTrue_37 (lv_at hl 5 rfl) ?_
      refine lv_bipush (v := (12 : Int32)) hx hb dX10_isTrue_39 (by decide) ?_
      refine lv_irem hx hb dX10_isTrue_41 (by decide) ?_
      refine lv_iload hx hb dX10_isTrue_42 (lv_at hl 5 rfl) ?_
      refine lv_bipush (v := (12 : Int32)) hx hb dX10_isTrue_44 (by decide) ?_
      refine lv_idiv hx hb dX10_isTrue_46 (by decide) ?_
      obtain ⟨v47, hcl, hF⟩ := ob hF
      refine go_SI (r_S (rest := []) (As := [.int v36, .int (x4 - x4 / (12 : Int32) * (12 : Int32)), .int (x4 / (12 : Int32))]) C0 cb_X10_404 (tX10_isOf l D cy ad hcl) (pre_S C0) hl dX10_isTrue_47 rfl (Nat.le_of_ble_eq_true rfl) ⟨rfl, rfl⟩ ⟨Nat.le_of_ble_eq_true rfl, Nat.le_of_ble_eq_true rfl⟩ ⟨Nat.le_of_ble_eq_true rfl, Nat.le_of_ble_eq_true rfl⟩ rfl) ?_
      refine lv_if_eq (tgt := 99) hx hb dX10_isTrue_50 (by decide) (fun hc => ?_) (fun hc => ?_)
      · have hF := oi_t hc hF
        exact wX10_isTrue_99 ad A C0 M hr hF (lv_sub hl [1, 2, 3, 4, 5] rfl) Kr Kh0
      · have hF := oi_f hc hF
        refine lv_iconst (v := (1 : Int32)) hx hb dX10_isTrue_53 (by decide) ?_
        refine lv_istore_n (lv' := [(2, .int (1 : Int32)), (5, .int v21), (0, .ref (ad x0)), (1, .int x1), (3, .int x3), (4, .int x4)]) hx hb dX10_isTrue_54 rfl hl (by decide) rfl (fun ls hl => ?_)
        refine lv_iload_n hx hb dX10_isTrue_55 rfl (lv_at hl 4 rfl) ?_
        refine lv_if_eq (tgt := 97) hx hb dX10_isTrue_56 (by decide) (fun hc => ?_) (fun hc => ?_)
        · have hF := oi_t hc hF
          exact wX10_isTrue_97 ad A C0 M hr hF (lv_sub hl [2, 3, 0, 5] rfl) Kr Kh0
        · have hF := oi_f hc hF
          refine lv_aload_n hx hb dX10_isTrue_59 rfl (lv_at hl 2 rfl) ?_
          obtain ⟨v60, hv, hF⟩ := ob hF
          refine k_getP C0 M hv fl_X10_110 dX10_isTrue_60 ?_
          refine lv_iload_n hx hb dX10_isTrue_63 rfl (lv_at hl 3 rfl) ?_
          obtain ⟨v64, hv, hF⟩ := ob hF
          refine k_ldZ C0 M hv dX10_isTrue_64 ?_
          refine lv_if_eq (tgt := 82) hx hb dX10_isTrue_65 (by decide) (fun hc => ?_) (fun hc => ?_)
          · have hF := oi_t hc hF
            refine lv_iload hx hb dX10_isTrue_82 (lv_at hl 1 rfl) ?_
            refine lv_aload_n hx hb dX10_isTrue_84 rfl (lv_at hl 2 rfl) ?_
            obtain ⟨v85, hv, hF⟩ := ob hF
            refine k_getP C0 M hv fl_X10_113 dX10_isTrue_85 ?_
            refine lv_iload_n hx hb dX10_isTrue_88 rfl (lv_at hl 3 rfl) ?_
            obtain ⟨v89, hv, hF⟩ := ob hF
            refine k_ld C0 M hv dX10_isTrue_89 ?_
            refine lv_icmp_ge (tgt := 97) hx hb dX10_isTrue_90 (by decide) (fun hc => ?_) (fun hc => ?_)
            · have hF := oi_t hc hF
              exact wX10_isTrue_97 ad A C0 M hr hF (lv_sub hl [2, 3, 0, 5] rfl) Kr Kh0
            · have hF := oi_f hc hF
              exact wX10_isTrue_93 ad A C0 M hr hF (lv_sub hl [2, 3, 0, 5] rfl) Kr Kh0
          · have hF := oi_f hc hF
            refine lv_iload hx hb dX10_isTrue_68 (lv_at hl 1 rfl) ?_
            refine lv_aload_n hx hb dX10_isTrue_70 rfl (lv_at hl 2 rfl) ?_
            obtain ⟨v71, hv, hF⟩ := ob hF
            refine k_getP C0 M hv fl_X10_113 dX10_isTrue_71 ?_
            refine lv_iload_n hx hb dX10_isTrue_74 rfl (lv_at hl 3 rfl) ?_
            obtain ⟨v75, hv, hF⟩ := ob hF
            refine k_ld C0 M hv dX10_isTrue_75 ?_
            refine lv_icmp_le (tgt := 97) hx hb dX10_isTrue_76 (by decide) (fun hc => ?_) (fun hc => ?_)
            · have hF := oi_t hc hF
              exact wX10_isTrue_97 ad A C0 M hr hF (lv_sub hl [2, 3, 0, 5] rfl) Kr Kh0
            · have hF := oi_f hc hF
              refine lv_goto (tgt := 93) hx hb dX10_isTrue_79 (by decide) ?_
              exact wX10_isTrue_93 ad A C0 M hr hF (lv_sub hl [2, 3, 0, 5] rfl) Kr Kh0
set_option maxHeartbeats 4000000 in
set_option maxRecDepth 100000 in
theorem tX10_isTrue (l : Launch) (D : va_G) (cy : Nat → ClassId) (ad : Nat → Nat) (A : Nat → Prop) {S : MS} {a0 : Nat} {a1 : Int32} {r : Int32} (h : fX10_isTrue S a0 a1 = some r) : Met l yX10_isTrue [Cond.code yX10_isTrue cX10_isTrue 6 (some .boolean)] rmX10_isTrue (PcR D cy ad A S [.ref (ad a0), .int a1]) (QcS (some (.int r))) 0 0 (fun _ => False) := by
  refine met_R (by decide +kernel) cw_X10_isTrue (Nat.le_of_ble_eq_true rfl) ?_
  intro p e s m args below meth c ls C0 M hr hl
  have hl : lv_has ls 6 [(0, .ref (ad a0)), (1, .int a1)] := hl
  have key := lim_walk (step := sX10_isTrue S) (fun (q : (Nat × Int32 × Int32 × Int32 × Int32)) (r9 : Int32) => ∀ (r : Int32), r9 = r → ((∀ (y0 : Nat) (y1 : Int32) (y2 : Int32) (y3 : Int32) (y4 : Int32), q = (y0, y1, y2, y3, y4) → ∀ (ls1 : Array Slot), lv_has ls1 6 [(0, .ref (ad y0)), (1, .int y1), (2, .int y2), (3, .int y3), (4, .int y4)] → W p l e rmX10_isTrue s m args below meth c s.heap [] 0 0 (MQ below (QcS (some (.int r))) args s 0 0 (fun _ => False)) (F0 m 7 ls1 [])))) ?_
  · unfold fX10_isTrue at h
    cases hs0 : bX10_isTrue_0 S a0 a1 with
    | none => rw [hs0] at h; cases h
    | some out =>
      rw [hs0] at h
      refine wX10_isTrue_0 ad A C0 M hr hs0 hl (fun r9 hr9 => ?_) ?_
      · subst hr9; exact Option.some.inj h
      · intro y0 y1 y2 y3 y4 hq; subst hq; exact (key _ _ h _ rfl) _ _ _ _ _ rfl
  · intro q r9 out hst hre hin9
    intro r er; subst er
    refine ?_
    · intro y0 y1 y2 y3 y4 hq ls1 hl
      subst hq
      exact wX10_isTrue_7 ad A C0 M hr hst hl hre (fun k0 k1 k2 k3 k4 hk => (hin9 _ hk _ rfl) _ _ _ _ _ rfl)
set_option maxHeartbeats 4000000 in
set_option maxRecDepth 100000 in
theorem wX10_joining_0 {p : Program} {l : Launch} {e : Env} {s : State} {m : MethodId} {args : Array Value} {below : List Frame} {meth : Method} {c : Code} {D : va_G} {cy : Nat → ClassId} (ad : Nat → Nat) (A : Nat → Prop) {S : MS} {S' : MS} {H : Heap} {locs : List Loc} {n0 : Nat} {r : Int32} {ls : Array Slot} {x0 : Nat} (C0 : CX p s m args meth c RX10 cX10_joining 1 D cy) (M : ST D cy ad A s.heap (ZN n0 s.heap.size) S H locs) (hr : meth.sig.returnType = some .int) (hF : bX10_joining_0 S x0 = some (r, S')) (hl : lv_has ls 1 [(0, .ref (ad x0))]) : W p l e rmX10_joining s m args below meth c H locs 0 0 (MQ below (QcM D cy ad A n0 S' (some (.int r))) args s 0 0 A) (F0 m 0 ls []) := by
  unfold bX10_joining_0 at hF
  obtain ⟨hx, hb, -, hown, -, hts, -⟩ := id C0
  refine lv_aload_n hx hb dX10_joining_0 rfl (lv_at hl 0 rfl) ?_
  obtain ⟨_, hrec, hF⟩ := ob hF
  obtain ⟨S1, hcl, hF⟩ := ob hF
  refine go_MV (r_V (rest := []) (As := []) C0 cb_X10_355 M.1 hrec (tX10_findJoining l D cy ad A hcl) (pre_R C0 M.1) hl dX10_joining_1 rfl (Nat.le_of_ble_eq_true rfl) ⟨rfl, rfl⟩ ⟨Nat.le_of_ble_eq_true rfl, Nat.le_of_ble_eq_true rfl⟩ ⟨Nat.le_of_ble_eq_true rfl, Nat.le_of_ble_eq_true rfl⟩ rfl) M (fun H locs M => ?_)
  refine lv_aload_n hx hb dX10_joining_4 rfl (lv_at hl 0 rfl) ?_
  obtain ⟨v5, hv, hF⟩ := ob hF
  refine k_getI C0 M.1 hv fl_X10_346 dX10_joining_5 ?_
  obtain ⟨rfl, rfl⟩ := Prod.mk.inj (Option.some.inj hF)
  exact rt_MI C0 M hr dX10_joining_8
set_option maxHeartbeats 4000000 in
set_option maxRecDepth 100000 in
theorem tX10_joining (l : Launch) (D : va_G) (cy : Nat → ClassId) (ad : Nat → Nat) (A : Nat → Prop) {S S' : MS} {a0 : Nat} {r : Int32} (h : fX10_joining S a0 = some (r, S')) : Met l yX10_joining [Cond.code yX10_joining cX10_joining 1 (some .int)] rmX10_joining (PcR D cy ad A S [.ref (ad a0)]) (QcM D cy ad A (m_n S) S' (some (.int r))) 0 0 A := by
  refine met_M (by decide +kernel) cw_X10_joining (Nat.le_of_ble_eq_true rfl) ?_
  intro p e s m args below meth c ls C0 M hr hin hl
  have hl : lv_has ls 1 [(0, .ref (ad a0))] := hl
  exact wX10_joining_0 ad A C0 M hr h hl
set_option maxHeartbeats 4000000 in
set_option maxRecDepth 100000 in
theorem wX10_keep_0 {p : Program} {l : Launch} {e : Env} {s : State} {m : MethodId} {args : Array Value} {below : List Frame} {meth : Method} {c : Code} {D : va_G} {cy : Nat → ClassId} (ad : Nat → Nat) (A : Nat → Prop) {S : MS} {S' : MS} {H : Heap} {locs : List Loc} {n0 : Nat} {r : Int32} {out : ((Nat × Int32 × Int32 × Int32 × MS) ⊕ (Int32 × MS))} {ls : Array Slot} {x0 : Nat} {x1 : Int32} (C0 : CX p s m args meth c RX10 cX10_keep 4 D cy) (M : ST D cy ad A s.heap (ZN n0 s.heap.size) S H locs) (hr : meth.sig.returnType = some .int) (hF : bX10_keep_0 S x0 x1 = some out) (hl : lv_has ls 4 [(0, .ref (ad x0)), (1, .int x1)]) (Kr : ∀ r9, out = .inr r9 → r9 = (r, S')) (Kh0 : ∀ (y0 : Nat) (y1 : Int32) (y2 : Int32) (y3 : Int32) (S2 : MS), out = .inl (y0, y1, y2, y3, S2) → ∀ (H1 : Heap) (locs1 : List Loc) (ls1 : Array Slot), ST D cy ad A s.heap (ZN n0 s.heap.size) S2 H1 locs1 → lv_has ls1 4 [(0, .ref (ad y0)), (1, .int y1), (2, .int y2), (3, .int y3)] → W p l e rmX10_keep s m args below meth c H1 locs1 0 0 (MQ below (QcM D cy ad A n0 S' (some (.int r))) args s 0 0 A) (F0 m 22 ls1 [])) : W p l e rmX10_keep s m args below meth c H locs 0 0 (MQ below (QcM D cy ad A n0 S' (some (.int r))) args s 0 0 A) (F0 m 0 ls []) := by
  unfold bX10_keep_0 at hF
  obtain ⟨hx, hb, -, hown, -, hts, -⟩ := id C0
  refine lv_iload_n hx hb dX10_keep_0 rfl (lv_at hl 1 rfl) ?_
  refine lv_i2l (v := (x1.toInt64)) hx hb dX10_keep_1 rfl ?_
  refine lv_lconst (v := (0 : Int64)) hx hb dX10_keep_2 (by decide) ?_
  refine lv_ldc2 (v := (3 : Int64)) hx hb hown (hts _ (uw_of 1287 (by decide +kernel) rfl)) dX10_keep_3 ?_
  obtain ⟨v6, hcl, hF⟩ := ob hF
  refine go_SI (r_S (rest := []) (As := [.long (x1.toInt64), .long (0 : Int64), .long (3 : Int64)]) C0 cb_X10_156 (tX10_in l D cy ad hcl) (pre_S C0) hl dX10_keep_6 rfl (Nat.le_of_ble_eq_true rfl) ⟨rfl, rfl⟩ ⟨Nat.le_of_ble_eq_true rfl, Nat.le_of_ble_eq_true rfl⟩ ⟨Nat.le_of_ble_eq_true rfl, Nat.le_of_ble_eq_true rfl⟩ rfl) ?_
  refine lv_if_ne (tgt := 14) hx hb dX10_keep_9 (by decide) (fun hc => ?_) (fun hc => ?_)
  · have hF := oi_f hc hF
    refine lv_aload_n hx hb dX10_keep_14 rfl (lv_at hl 0 rfl) ?_
    obtain ⟨_, hrec, hF⟩ := ob hF
    obtain ⟨S15, hcl, hF⟩ := ob hF
    refine go_MV (r_V (rest := []) (As := []) C0 cb_X10_237 M.1 hrec (tX10_layChart l D cy ad A hcl) (pre_R C0 M.1) hl dX10_keep_15 rfl (Nat.le_of_ble_eq_true rfl) ⟨rfl, rfl⟩ ⟨Nat.le_of_ble_eq_true rfl, Nat.le_of_ble_eq_true rfl⟩ ⟨Nat.le_of_ble_eq_true rfl, Nat.le_of_ble_eq_true rfl⟩ rfl) M (fun H locs M => ?_)
    refine lv_iconst (v := (0 : Int32)) hx hb dX10_keep_18 (by decide) ?_
    refine lv_istore_n (lv' := [(2, .int (0 : Int32)), (0, .ref (ad x0)), (1, .int x1)]) hx hb dX10_keep_19 rfl hl (by decide) rfl (fun ls hl => ?_)
    refine lv_iconst (v := (0 : Int32)) hx hb dX10_keep_20 (by decide) ?_
    refine lv_istore_n (lv' := [(3, .int (0 : Int32)), (2, .int (0 : Int32)), (0, .ref (ad x0)), (1, .int x1)]) hx hb dX10_keep_21 rfl hl (by decide) rfl (fun ls hl => ?_)
    exact Kh0 _ _ _ _ _ (Option.some.inj hF).symm _ _ _ M (lv_sub hl [2, 3, 1, 0] rfl)
  · have hF := oi_t hc hF
    refine lv_iconst (v := (-1 : Int32)) hx hb dX10_keep_12 (by decide) ?_
    obtain ⟨rfl, rfl⟩ := Prod.mk.inj (Kr _ (Option.some.inj hF).symm)
    exact rt_MI C0 M hr dX10_keep_13
set_option maxHeartbeats 4000000 in
set_option maxRecDepth 100000 in
theorem wX10_keep_64 {p : Program} {l : Launch} {e : Env} {s : State} {m : MethodId} {args : Array Value} {below : List Frame} {meth : Method} {c : Code} {D : va_G} {cy : Nat → ClassId} (ad : Nat → Nat) (A : Nat → Prop) {S : MS} {S' : MS} {H : Heap} {locs : List Loc} {n0 : Nat} {r : Int32} {out : ((Nat × Int32 × Int32 × Int32 × MS) ⊕ (Int32 × MS))} {ls : Array Slot} {x0 : Nat} {x1 : Int32} {x3 : Int32} {z0 : Int32} {z1 : Int32} (C0 : CX p s m args meth c RX10 cX10_keep 4 D cy) (M : ST D cy ad A s.heap (ZN n0 s.heap.size) S H locs) (hr : meth.sig.returnType = some .int) (hF : bX10_keep_64 S x0 x1 x3 z0 z1 = some out) (hl : lv_has ls 4 [(0, .ref (ad x0)), (1, .int x1), (3, .int x3)]) (Kr : ∀ r9, out = .inr r9 → r9 = (r, S')) (Kh0 : ∀ (y0 : Nat) (y1 : Int32) (y2 : Int32) (y3 : Int32) (S2 : MS), out = .inl (y0, y1, y2, y3, S2) → ∀ (H1 : Heap) (locs1 : List Loc) (ls1 : Array Slot), ST D cy ad A s.heap (ZN n0 s.heap.size) S2 H1 locs1 → lv_has ls1 4 [(0, .ref (ad y0)), (1, .int y1), (2, .int y2), (3, .int y3)] → W p l e rmX10_keep s m args below meth c H1 locs1 0 0 (MQ below (QcM D cy ad A n0 S' (some (.int r))) args s 0 0 A) (F0 m 22 ls1 [])) : W p l e rmX10_keep s m args below meth c H locs 0 0 (MQ below (QcM D cy ad A n0 S' (some (.int r))) args s 0 0 A) (F0 m 64 ls [.int z1, .int z0]) := by
  unfold bX10_keep_64 at hF
  obtain ⟨hx, hb, -, hown, -, hts, -⟩ := id C0
  refine lv_iadd hx hb dX10_keep_64 ?_
  obtain ⟨v65, hv, hF⟩ := ob hF
  have hv := vtI hv
  refine vtopi hv ?_
  refine lv_istore_n (lv' := [(2, .int v65), (0, .ref (ad x0)), (1, .int x1), (3, .int x3)]) hx hb dX10_keep_65 rfl hl (by decide) rfl (fun ls hl => ?_)
  obtain ⟨v66, hv, hF⟩ := ob hF
  refine lv_iinc (v := v66) (lv' := [(3, .int v66), (2, .int v65), (0, .ref (ad x0)), (1, .int x1)]) hx hb dX10_keep_66 hl (k := 3) rfl (by rw [← vtI hv]; rfl) (by decide) rfl (fun ls hl => ?_)
  refine lv_goto (tgt := 22) hx hb dX10_keep_69 (by decide) ?_
  exact Kh0 _ _ _ _ _ (Option.some.inj hF).symm _ _ _ M (lv_sub hl [2, 3, 1, 0] rfl)
set_option maxHeartbeats 4000000 in
set_option maxRecDepth 100000 in
theorem wX10_keep_22 {p : Program} {l : Launch} {e : Env} {s : State} {m : MethodId} {args : Array Value} {below : List Frame} {meth : Method} {c : Code} {D : va_G} {cy : Nat → ClassId} (ad : Nat → Nat) (A : Nat → Prop) {S : MS} {S' : MS} {H : Heap} {locs : List Loc} {n0 : Nat} {r : Int32} {out : ((Nat × Int32 × Int32 × Int32 × MS) ⊕ (Int32 × MS))} {ls : Array Slot} {x0 : Nat} {x1 : Int32} {x2 : Int32} {x3 : Int32} (C0 : CX p s m args meth c RX10 cX10_keep 4 D cy) (M : ST D cy ad A s.heap (ZN n0 s.heap.size) S H locs) (hr : meth.sig.returnType = some .int) (hF : bX10_keep_22 S x0 x1 x2 x3 = some out) (hl : lv_has ls 4 [(0, .ref (ad x0)), (1, .int x1), (2, .int x2), (3, .int x3)]) (Kr : ∀ r9, out = .inr r9 → r9 = (r, S')) (Kh0 : ∀ (y0 : Nat) (y1 : Int32) (y2 : Int32) (y3 : Int32) (S2 : MS), out = .inl (y0, y1, y2, y3, S2) → ∀ (H1 : Heap) (locs1 : List Loc) (ls1 : Array Slot), ST D cy ad A s.heap (ZN n0 s.heap.size) S2 H1 locs1 → lv_has ls1 4 [(0, .ref (ad y0)), (1, .int y1), (2, .int y2), (3, .int y3)] → W p l e rmX10_keep s m args below meth c H1 locs1 0 0 (MQ below (QcM D cy ad A n0 S' (some (.int r))) args s 0 0 A) (F0 m 22 ls1 [])) : W p l e rmX10_keep s m args below meth c H locs 0 0 (MQ below (QcM D cy ad A n0 S' (some (.int r))) args s 0 0 A) (F0 m 22 ls []) := by
  unfold bX10_keep_22 at hF
  obtain ⟨hx, hb, -, hown, -, hts, -⟩ := id C0
  refine lv_iload_n hx hb dX10_keep_22 rfl (lv_at hl 3 rfl) ?_
  refine lv_sipush (v := (144 : Int32)) hx hb dX10_keep_23 (by decide) ?_
  refine lv_icmp_ge (tgt := 72) hx hb dX10_keep_26 (by decide) (fun hc => ?_) (fun hc => ?_)
  · have hF := oi_t hc hF
    refine lv_aload_n hx hb dX10_keep_72 rfl (lv_at hl 0 rfl) ?_
    obtain ⟨v73, hv, hF⟩ := ob hF
    refine k_getP C0 M.1 hv fl_X10_98 dX10_keep_73 ?_
    refine lv_iload_n hx hb dX10_keep_76 rfl (lv_at hl 1 rfl) ?_
    refine lv_iconst (v := (1 : Int32)) hx hb dX10_keep_77 (by decide) ?_
    have hz : o_zb (1 : Int32) = some (1 : Int32) := rfl
    obtain ⟨S78, hv, hF⟩ := ob hF
    refine k_stZ C0 M hz hv dX10_keep_78 (fun H locs M => ?_)
    refine lv_iload_n hx hb dX10_keep_79 rfl (lv_at hl 2 rfl) ?_
    obtain ⟨rfl, rfl⟩ := Prod.mk.inj (Kr _ (Option.some.inj hF).symm)
    exact rt_MI C0 M hr dX10_keep_80
  · have hF := oi_f hc hF
    refine lv_aload_n hx hb dX10_keep_29 rfl (lv_at hl 0 rfl) ?_
    obtain ⟨v30, hv, hF⟩ := ob hF
    refine k_getP C0 M.1 hv fl_X10_101 dX10_keep_30 ?_
    refine lv_sipush (v := (144 : Int32)) hx hb dX10_keep_33 (by decide) ?_
    refine lv_iload_n hx hb dX10_keep_36 rfl (lv_at hl 1 rfl) ?_
    refine lv_imul hx hb dX10_keep_37 ?_
    refine lv_iload_n hx hb dX10_keep_38 rfl (lv_at hl 3 rfl) ?_
    refine lv_iadd hx hb dX10_keep_39 ?_
    refine lv_aload_n hx hb dX10_keep_40 rfl (lv_at hl 0 rfl) ?_
    obtain ⟨v41, hv, hF⟩ := ob hF
    refine k_getP C0 M.1 hv fl_X10_55 dX10_keep_41 ?_
    refine lv_iload_n hx hb dX10_keep_44 rfl (lv_at hl 3 rfl) ?_
    obtain ⟨v45, hv, hF⟩ := ob hF
    refine k_ld C0 M.1 hv dX10_keep_45 ?_
    obtain ⟨S46, hv, hF⟩ := ob hF
    refine k_st C0 M hv dX10_keep_46 (fun H locs M => ?_)
    refine lv_iload_n hx hb dX10_keep_47 rfl (lv_at hl 2 rfl) ?_
    refine lv_aload_n hx hb dX10_keep_48 rfl (lv_at hl 0 rfl) ?_
    obtain ⟨v49, hv, hF⟩ := ob hF
    refine k_getP C0 M.1 hv fl_X10_55 dX10_keep_49 ?_
    refine lv_iload_n hx hb dX10_keep_52 rfl (lv_at hl 3 rfl) ?_
    obtain ⟨v53, hv, hF⟩ := ob hF
    refine k_ld C0 M.1 hv dX10_keep_53 ?_
    refine lv_bipush (v := (-9 : Int32)) hx hb dX10_keep_54 (by decide) ?_
    refine lv_icmp_ne (tgt := 63) hx hb dX10_keep_56 (by decide) (fun hc => ?_) (fun hc => ?_)
    · have hF := oi_f hc hF
      refine lv_iconst (v := (1 : Int32)) hx hb dX10_keep_63 (by decide) ?_
      exact wX10_keep_64 ad A C0 M hr hF (lv_sub hl [0, 1, 3] rfl) Kr Kh0
    · have hF := oi_t hc hF
      refine lv_iconst (v := (0 : Int32)) hx hb dX10_keep_59 (by decide) ?_
      refine lv_goto (tgt := 64) hx hb dX10_keep_60 (by decide) ?_
      exact wX10_keep_64 ad A C0 M hr hF (lv_sub hl [0, 1, 3] rfl) Kr Kh0
set_option maxHeartbeats 4000000 in
set_option maxRecDepth 100000 in
theorem tX10_keep (l : Launch) (D : va_G) (cy : Nat → ClassId) (ad : Nat → Nat) (A : Nat → Prop) {S S' : MS} {a0 : Nat} {a1 : Int32} {r : Int32} (h : fX10_keep S a0 a1 = some (r, S')) : Met l yX10_keep [Cond.code yX10_keep cX10_keep 4 (some .int)] rmX10_keep (PcR D cy ad A S [.ref (ad a0), .int a1]) (QcM D cy ad A (m_n S) S' (some (.int r))) 0 0 A := by
  refine met_M (by decide +kernel) cw_X10_keep (Nat.le_of_ble_eq_true rfl) ?_
  intro p e s m args below meth c ls C0 M hr hin hl
  have hl : lv_has ls 4 [(0, .ref (ad a0)), (1, .int a1)] := hl
  have key := lim_walk (step := sX10_keep) (fun (q : (Nat × Int32 × Int32 × Int32 × MS)) (r9 : (Int32 × MS)) => ∀ (r : Int32) (S' : MS), r9 = (r, S') → ((∀ (y0 : Nat) (y1 : Int32) (y2 : Int32) (y3 : Int32) (S2 : MS), q = (y0, y1, y2, y3, S2) → ∀ (H1 : Heap) (locs1 : List Loc) (ls1 : Array Slot), ST D cy ad A s.heap (ZN (m_n S) s.heap.size) S2 H1 locs1 → lv_has ls1 4 [(0, .ref (ad y0)), (1, .int y1), (2, .int y2), (3, .int y3)] → W p l e rmX10_keep s m args below meth c H1 locs1 0 0 (MQ below (QcM D cy ad A (m_n S) S' (some (.int r))) args s 0 0 A) (F0 m 22 ls1 [])))) ?_
  · unfold fX10_keep at h
    cases hs0 : bX10_keep_0 S a0 a1 with
    | none => rw [hs0] at h; cases h
    | some out =>
      rw [hs0] at h
      refine wX10_keep_0 ad A C0 M hr hs0 hl (fun r9 hr9 => ?_) ?_
      · subst hr9; exact Option.some.inj h
      · intro y0 y1 y2 y3 y4 hq; subst hq; exact (key _ _ h _ _ rfl) _ _ _ _ _ rfl
  · intro q r9 out hst hre hin9
    intro r S' er; subst er
    refine ?_
    · intro y0 y1 y2 y3 y4 hq H1 locs1 ls1 M hl
      subst hq
      exact wX10_keep_22 ad A C0 M hr hst hl hre (fun k0 k1 k2 k3 k4 hk => (hin9 _ hk _ _ rfl) _ _ _ _ _ rfl)
set_option maxHeartbeats 4000000 in
set_option maxRecDepth 100000 in
theorem wX10_lengthOf_0 {p : Program} {l : Launch} {e : Env} {s : State} {m : MethodId} {args : Array Value} {below : List Frame} {meth : Method} {c : Code} {D : va_G} {cy : Nat → ClassId} (ad : Nat → Nat) (A : Nat → Prop) {S : MS} {r : Int32} {out : ((Nat × Int32 × Int32 × Int32) ⊕ Int32)} {ls : Array Slot} {x0 : Nat} {x1 : Int32} (C0 : CX p s m args meth c RX10 cX10_lengthOf 4 D cy) (M : MW D cy ad A S s.heap) (hr : meth.sig.returnType = some .int) (hF : bX10_lengthOf_0 S x0 x1 = some out) (hl : lv_has ls 4 [(0, .ref (ad x0)), (1, .int x1)]) (Kr : ∀ r9, out = .inr r9 → r9 = r) (Kh0 : ∀ (y0 : Nat) (y1 : Int32) (y2 : Int32) (y3 : Int32), out = .inl (y0, y1, y2, y3) → ∀ (ls1 : Array Slot), lv_has ls1 4 [(0, .ref (ad y0)), (1, .int y1), (2, .int y2), (3, .int y3)] → W p l e rmX10_lengthOf s m args below meth c s.heap [] 0 0 (MQ below (QcS (some (.int r))) args s 0 0 (fun _ => False)) (F0 m 4 ls1 [])) : W p l e rmX10_lengthOf s m args below meth c s.heap [] 0 0 (MQ below (QcS (some (.int r))) args s 0 0 (fun _ => False)) (F0 m 0 ls []) := by
  unfold bX10_lengthOf_0 at hF
  obtain ⟨hx, hb, -, hown, -, hts, -⟩ := id C0
  refine lv_iconst (v := (0 : Int32)) hx hb dX10_lengthOf_0 (by decide) ?_
  refine lv_istore_n (lv' := [(2, .int (0 : Int32)), (0, .ref (ad x0)), (1, .int x1)]) hx hb dX10_lengthOf_1 rfl hl (by decide) rfl (fun ls hl => ?_)
  refine lv_iconst (v := (0 : Int32)) hx hb dX10_lengthOf_2 (by decide) ?_
  refine lv_istore_n (lv' := [(3, .int (0 : Int32)), (2, .int (0 : Int32)), (0, .ref (ad x0)), (1, .int x1)]) hx hb dX10_lengthOf_3 rfl hl (by decide) rfl (fun ls hl => ?_)
  exact Kh0 _ _ _ _ (Option.some.inj hF).symm _ (lv_sub hl [2, 3, 1, 0] rfl)
set_option maxHeartbeats 4000000 in
set_option maxRecDepth 100000 in
theorem wX10_lengthOf_76 {p : Program} {l : Launch} {e : Env} {s : State} {m : MethodId} {args : Array Value} {below : List Frame} {meth : Method} {c : Code} {D : va_G} {cy : Nat → ClassId} (ad : Nat → Nat) (A : Nat → Prop) {S : MS} {r : Int32} {out : ((Nat × Int32 × Int32 × Int32) ⊕ Int32)} {ls : Array Slot} {x0 : Nat} {x1 : Int32} {x3 : Int32} {z0 : Int32} {z1 : Int32} (C0 : CX p s m args meth c RX10 cX10_lengthOf 4 D cy) (M : MW D cy ad A S s.heap) (hr : meth.sig.returnType = some .int) (hF : bX10_lengthOf_76 S x0 x1 x3 z0 z1 = some out) (hl : lv_has ls 4 [(0, .ref (ad x0)), (1, .int x1), (3, .int x3)]) (Kr : ∀ r9, out = .inr r9 → r9 = r) (Kh0 : ∀ (y0 : Nat) (y1 : Int32) (y2 : Int32) (y3 : Int32), out = .inl (y0, y1, y2, y3) → ∀ (ls1 : Array Slot), lv_has ls1 4 [(0, .ref (ad y0)), (1, .int y1), (2, .int y2), (3, .int y3)] → W p l e rmX10_lengthOf s m args below meth c s.heap [] 0 0 (MQ below (QcS (some (.int r))) args s 0 0 (fun _ => False)) (F0 m 4 ls1 [])) : W p l e rmX10_lengthOf s m args below meth c s.heap [] 0 0 (MQ below (QcS (some (.int r))) args s 0 0 (fun _ => False)) (F0 m 76 ls [.int z1, .int z0]) := by
  unfold bX10_lengthOf_76 at hF
  obtain ⟨hx, hb, -, hown, -, hts, -⟩ := id C0
  refine lv_iadd hx hb dX10_lengthOf_76 ?_
  obtain ⟨v77, hv, hF⟩ := ob hF
  have hv := vtI hv
  refine vtopi hv ?_
  refine lv_istore_n (lv' := [(2, .int v77), (0, .ref (ad x0)), (1, .int x1), (3, .int x3)]) hx hb dX10_lengthOf_77 rfl hl (by decide) rfl (fun ls hl => ?_)
  obtain ⟨v78, hv, hF⟩ := ob hF
  refine lv_iinc (v := v78) (lv' := [(3, .int v78), (2, .int v77), (0, .ref (ad x0)), (1, .int x1)]) hx hb dX10_lengthOf_78 hl (k := 3) rfl (by rw [← vtI hv]; rfl) (by decide) rfl (fun ls hl => ?_)
  refine lv_goto (tgt := 4) hx hb dX10_lengthOf_81 (by decide) ?_
  exact Kh0 _ _ _ _ (Option.some.inj hF).symm _ (lv_sub hl [2, 3, 1, 0] rfl)
set_option maxHeartbeats 4000000 in
set_option maxRecDepth 100000 in
theorem wX10_lengthOf_75 {p : Program} {l : Launch} {e : Env} {s : State} {m : MethodId} {args : Array Value} {below : List Frame} {meth : Method} {c : Code} {D : va_G} {cy : Nat → ClassId} (ad : Nat → Nat) (A : Nat → Prop) {S : MS} {r : Int32} {out : ((Nat × Int32 × Int32 × Int32) ⊕ Int32)} {ls : Array Slot} {x0 : Nat} {x1 : Int32} {x3 : Int32} {z0 : Int32} (C0 : CX p s m args meth c RX10 cX10_lengthOf 4 D cy) (M : MW D cy ad A S s.heap) (hr : meth.sig.returnType = some .int) (hF : bX10_lengthOf_75 S x0 x1 x3 z0 = some out) (hl : lv_has ls 4 [(0, .ref (ad x0)), (1, .int x1), (3, .int x3)]) (Kr : ∀ r9, out = .inr r9 → r9 = r) (Kh0 : ∀ (y0 : Nat) (y1 : Int32) (y2 : Int32) (y3 : Int32), out = .inl (y0, y1, y2, y3) → ∀ (ls1 : Array Slot), lv_has ls1 4 [(0, .ref (ad y0)), (1, .int y1), (2, .int y2), (3, .int y3)] → W p l e rmX10_lengthOf s m args below meth c s.heap [] 0 0 (MQ below (QcS (some (.int r))) args s 0 0 (fun _ => False)) (F0 m 4 ls1 [])) : W p l e rmX10_lengthOf s m args below meth c s.heap [] 0 0 (MQ below (QcS (some (.int r))) args s 0 0 (fun _ => False)) (F0 m 75 ls [.int z0]) := by
  unfold bX10_lengthOf_75 at hF
  obtain ⟨hx, hb, -, hown, -, hts, -⟩ := id C0
  refine lv_iconst (v := (0 : Int32)) hx hb dX10_lengthOf_75 (by decide) ?_
  exact wX10_lengthOf_76 ad A C0 M hr hF (lv_sub hl [0, 1, 2] rfl) Kr Kh0
set_option maxHeartbeats 4000000 in
set_option maxRecDepth 100000 in
theorem wX10_lengthOf_43 {p : Program} {l : Launch} {e : Env} {s : State} {m : MethodId} {args : Array Value} {below : List Frame} {meth : Method} {c : Code} {D : va_G} {cy : Nat → ClassId} (ad : Nat → Nat) (A : Nat → Prop) {S : MS} {r : Int32} {out : ((Nat × Int32 × Int32 × Int32) ⊕ Int32)} {ls : Array Slot} {x0 : Nat} {x1 : Int32} {x3 : Int32} {z0 : Int32} {z1 : Int32} (C0 : CX p s m args meth c RX10 cX10_lengthOf 4 D cy) (M : MW D cy ad A S s.heap) (hr : meth.sig.returnType = some .int) (hF : bX10_lengthOf_43 S x0 x1 x3 z0 z1 = some out) (hl : lv_has ls 4 [(0, .ref (ad x0)), (1, .int x1), (3, .int x3)]) (Kr : ∀ r9, out = .inr r9 → r9 = r) (Kh0 : ∀ (y0 : Nat) (y1 : Int32) (y2 : Int32) (y3 : Int32), out = .inl (y0, y1, y2, y3) → ∀ (ls1 : Array Slot), lv_has ls1 4 [(0, .ref (ad y0)), (1, .int y1), (2, .int y2), (3, .int y3)] → W p l e rmX10_lengthOf s m args below meth c s.heap [] 0 0 (MQ below (QcS (some (.int r))) args s 0 0 (fun _ => False)) (F0 m 4 ls1 [])) : W p l e rmX10_lengthOf s m args below meth c s.heap [] 0 0 (MQ below (QcS (some (.int r))) args s 0 0 (fun _ => False)) (F0 m 43 ls [.int z1, .int z0]) := by
  unfold bX10_lengthOf_43 at hF
  obtain ⟨hx, hb, -, hown, -, hts, -⟩ := id C0
  refine lv_iadd hx hb dX10_lengthOf_43 ?_
  obtain ⟨v44, hv, hF⟩ := ob hF
  have hv := vtI hv
  refine vtopi hv ?_
  refine lv_istore_n (lv' := [(2, .int v44), (0, .ref (ad x0)), (1, .int x1), (3, .int x3)]) hx hb dX10_lengthOf_44 rfl hl (by decide) rfl (fun ls hl => ?_)
  refine lv_iload_n hx hb dX10_lengthOf_45 rfl (lv_at hl 0 rfl) ?_
  refine lv_iload_n hx hb dX10_lengthOf_46 rfl (lv_at hl 3 rfl) ?_
  refine lv_sipush (v := (132 : Int32)) hx hb dX10_lengthOf_47 (by decide) ?_
  refine lv_icmp_ge (tgt := 75) hx hb dX10_lengthOf_50 (by decide) (fun hc => ?_) (fun hc => ?_)
  · have hF := oi_t hc hF
    exact wX10_lengthOf_75 ad A C0 M hr hF (lv_sub hl [1, 2, 3] rfl) Kr Kh0
  · have hF := oi_f hc hF
    refine lv_aload_n hx hb dX10_lengthOf_53 rfl (lv_at hl 1 rfl) ?_
    refine lv_iload_n hx hb dX10_lengthOf_54 rfl (lv_at hl 3 rfl) ?_
    refine lv_iload_n hx hb dX10_lengthOf_55 rfl (lv_at hl 2 rfl) ?_
    obtain ⟨_, hrec, hF⟩ := ob hF
    obtain ⟨v56, hcl, hF⟩ := ob hF
    refine go_SI (r_V (rest := [.int v44]) (As := [.int x3, .int x1]) C0 cb_X10_293 M hrec (tX10_isBelow l D cy ad A hcl) (pre_R C0 M) hl dX10_lengthOf_56 rfl (Nat.le_of_ble_eq_true rfl) ⟨rfl, rfl⟩ ⟨Nat.le_of_ble_eq_true rfl, Nat.le_of_ble_eq_true rfl⟩ ⟨Nat.le_of_ble_eq_true rfl, Nat.le_of_ble_eq_true rfl⟩ rfl) ?_
    refine lv_aload_n hx hb dX10_lengthOf_59 rfl (lv_at hl 1 rfl) ?_
    refine lv_iload_n hx hb dX10_lengthOf_60 rfl (lv_at hl 3 rfl) ?_
    refine lv_bipush (v := (12 : Int32)) hx hb dX10_lengthOf_61 (by decide) ?_
    refine lv_iadd hx hb dX10_lengthOf_63 ?_
    refine lv_iload_n hx hb dX10_lengthOf_64 rfl (lv_at hl 2 rfl) ?_
    obtain ⟨_, hrec, hF⟩ := ob hF
    obtain ⟨v65, hcl, hF⟩ := ob hF
    refine go_SI (r_V (rest := [.int v56, .int v44]) (As := [.int (x3 + (12 : Int32)), .int x1]) C0 cb_X10_293 M hrec (tX10_isBelow l D cy ad A hcl) (pre_R C0 M) hl dX10_lengthOf_65 rfl (Nat.le_of_ble_eq_true rfl) ⟨rfl, rfl⟩ ⟨Nat.le_of_ble_eq_true rfl, Nat.le_of_ble_eq_true rfl⟩ ⟨Nat.le_of_ble_eq_true rfl, Nat.le_of_ble_eq_true rfl⟩ rfl) ?_
    refine lv_icmp_eq (tgt := 75) hx hb dX10_lengthOf_68 (by decide) (fun hc => ?_) (fun hc => ?_)
    · have hF := oi_t hc hF
      exact wX10_lengthOf_75 ad A C0 M hr hF (lv_sub hl [1, 2, 3] rfl) Kr Kh0
    · have hF := oi_f hc hF
      refine lv_iconst (v := (1 : Int32)) hx hb dX10_lengthOf_71 (by decide) ?_
      refine lv_goto (tgt := 76) hx hb dX10_lengthOf_72 (by decide) ?_
      exact wX10_lengthOf_76 ad A C0 M hr hF (lv_sub hl [1, 2, 3] rfl) Kr Kh0
set_option maxHeartbeats 4000000 in
set_option maxRecDepth 100000 in
theorem wX10_lengthOf_42 {p : Program} {l : Launch} {e : Env} {s : State} {m : MethodId} {args : Array Value} {below : List Frame} {meth : Method} {c : Code} {D : va_G} {cy : Nat → ClassId} (ad : Nat → Nat) (A : Nat → Prop) {S : MS} {r : Int32} {out : ((Nat × Int32 × Int32 × Int32) ⊕ Int32)} {ls : Array Slot} {x0 : Nat} {x1 : Int32} {x3 : Int32} {z0 : Int32} (C0 : CX p s m args meth c RX10 cX10_lengthOf 4 D cy) (M : MW D cy ad A S s.heap) (hr : meth.sig.returnType = some .int) (hF : bX10_lengthOf_42 S x0 x1 x3 z0 = some out) (hl : lv_has ls 4 [(0, .ref (ad x0)), (1, .int x1), (3, .int x3)]) (Kr : ∀ r9, out = .inr r9 → r9 = r) (Kh0 : ∀ (y0 : Nat) (y1 : Int32) (y2 : Int32) (y3 : Int32), out = .inl (y0, y1, y2, y3) → ∀ (ls1 : Array Slot), lv_has ls1 4 [(0, .ref (ad y0)), (1, .int y1), (2, .int y2), (3, .int y3)] → W p l e rmX10_lengthOf s m args below meth c s.heap [] 0 0 (MQ below (QcS (some (.int r))) args s 0 0 (fun _ => False)) (F0 m 4 ls1 [])) : W p l e rmX10_lengthOf s m args below meth c s.heap [] 0 0 (MQ below (QcS (some (.int r))) args s 0 0 (fun _ => False)) (F0 m 42 ls [.int z0]) := by
  unfold bX10_lengthOf_42 at hF
  obtain ⟨hx, hb, -, hown, -, hts, -⟩ := id C0
  refine lv_iconst (v := (0 : Int32)) hx hb dX10_lengthOf_42 (by decide) ?_
  exact wX10_lengthOf_43 ad A C0 M hr hF (lv_sub hl [0, 1, 2] rfl) Kr Kh0
set_option maxHeartbeats 4000000 in
set_option maxRecDepth 100000 in
theorem wX10_lengthOf_4 {p : Program} {l : Launch} {e : Env} {s : State} {m : MethodId} {args : Array Value} {below : List Frame} {meth : Method} {c : Code} {D : va_G} {cy : Nat → ClassId} (ad : Nat → Nat) (A : Nat → Prop) {S : MS} {r : Int32} {out : ((Nat × Int32 × Int32 × Int32) ⊕ Int32)} {ls : Array Slot} {x0 : Nat} {x1 : Int32} {x2 : Int32} {x3 : Int32} (C0 : CX p s m args meth c RX10 cX10_lengthOf 4 D cy) (M : MW D cy ad A S s.heap) (hr : meth.sig.returnType = some .int) (hF : bX10_lengthOf_4 S x0 x1 x2 x3 = some out) (hl : lv_has ls 4 [(0, .ref (ad x0)), (1, .int x1), (2, .int x2), (3, .int x3)]) (Kr : ∀ r9, out = .inr r9 → r9 = r) (Kh0 : ∀ (y0 : Nat) (y1 : Int32) (y2 : Int32) (y3 : Int32), out = .inl (y0, y1, y2, y3) → ∀ (ls1 : Array Slot), lv_has ls1 4 [(0, .ref (ad y0)), (1, .int y1), (2, .int y2), (3, .int y3)] → W p l e rmX10_lengthOf s m args below meth c s.heap [] 0 0 (MQ below (QcS (some (.int r))) args s 0 0 (fun _ => False)) (F0 m 4 ls1 [])) : W p l e rmX10_lengthOf s m args below meth c s.heap [] 0 0 (MQ below (QcS (some (.int r))) args s 0 0 (fun _ => False)) (F0 m 4 ls []) := by
  unfold bX10_lengthOf_4 at hF
  obtain ⟨hx, hb, -, hown, -, hts, -⟩ := id C0
  refine lv_iload_n hx hb dX10_lengthOf_4 rfl (lv_at hl 3 rfl) ?_
  refine lv_sipush (v := (144 : Int32)) hx hb dX10_lengthOf_5 (by decide) ?_
  refine lv_icmp_ge (tgt := 84) hx hb dX10_lengthOf_8 (by decide) (fun hc => ?_) (fun hc => ?_)
  · have hF := oi_t hc hF
    refine lv_iload_n hx hb dX10_lengthOf_84 rfl (lv_at hl 2 rfl) ?_
    obtain rfl := (Kr _ (Option.some.inj hF).symm)
    exact rt_SI C0 hr dX10_lengthOf_85
  · have hF := oi_f hc hF
    refine lv_iload_n hx hb dX10_lengthOf_11 rfl (lv_at hl 2 rfl) ?_
    refine lv_iload_n hx hb dX10_lengthOf_12 rfl (lv_at hl 3 rfl) ?_
    refine lv_bipush (v := (12 : Int32)) hx hb dX10_lengthOf_13 (by decide) ?_
    refine lv_irem hx hb dX10_lengthOf_15 (by decide) ?_
    refine lv_bipush (v := (11 : Int32)) hx hb dX10_lengthOf_16 (by decide) ?_
    refine lv_icmp_ge (tgt := 42) hx hb dX10_lengthOf_18 (by decide) (fun hc => ?_) (fun hc => ?_)
    · have hF := oi_t hc hF
      exact wX10_lengthOf_42 ad A C0 M hr hF (lv_sub hl [0, 1, 3] rfl) Kr Kh0
    · have hF := oi_f hc hF
      refine lv_aload_n hx hb dX10_lengthOf_21 rfl (lv_at hl 0 rfl) ?_
      refine lv_iload_n hx hb dX10_lengthOf_22 rfl (lv_at hl 3 rfl) ?_
      refine lv_iload_n hx hb dX10_lengthOf_23 rfl (lv_at hl 1 rfl) ?_
      obtain ⟨_, hrec, hF⟩ := ob hF
      obtain ⟨v24, hcl, hF⟩ := ob hF
      refine go_SI (r_V (rest := [.int x2]) (As := [.int x3, .int x1]) C0 cb_X10_293 M hrec (tX10_isBelow l D cy ad A hcl) (pre_R C0 M) hl dX10_lengthOf_24 rfl (Nat.le_of_ble_eq_true rfl) ⟨rfl, rfl⟩ ⟨Nat.le_of_ble_eq_true rfl, Nat.le_of_ble_eq_true rfl⟩ ⟨Nat.le_of_ble_eq_true rfl, Nat.le_of_ble_eq_true rfl⟩ rfl) ?_
      refine lv_aload_n hx hb dX10_lengthOf_27 rfl (lv_at hl 0 rfl) ?_
      refine lv_iload_n hx hb dX10_lengthOf_28 rfl (lv_at hl 3 rfl) ?_
      refine lv_iconst (v := (1 : Int32)) hx hb dX10_lengthOf_29 (by decide) ?_
      refine lv_iadd hx hb dX10_lengthOf_30 ?_
      refine lv_iload_n hx hb dX10_lengthOf_31 rfl (lv_at hl 1 rfl) ?_
      obtain ⟨_, hrec, hF⟩ := ob hF
      obtain ⟨v32, hcl, hF⟩ := ob hF
      refine go_SI (r_V (rest := [.int v24, .int x2]) (As := [.int (x3 + (1 : Int32)), .int x1]) C0 cb_X10_293 M hrec (tX10_isBelow l D cy ad A hcl) (pre_R C0 M) hl dX10_lengthOf_32 rfl (Nat.le_of_ble_eq_true rfl) ⟨rfl, rfl⟩ ⟨Nat.le_of_ble_eq_true rfl, Nat.le_of_ble_eq_true rfl⟩ ⟨Nat.le_of_ble_eq_true rfl, Nat.le_of_ble_eq_true rfl⟩ rfl) ?_
      refine lv_icmp_eq (tgt := 42) hx hb dX10_lengthOf_35 (by decide) (fun hc => ?_) (fun hc => ?_)
      · have hF := oi_t hc hF
        exact wX10_lengthOf_42 ad A C0 M hr hF (lv_sub hl [0, 1, 3] rfl) Kr Kh0
      · have hF := oi_f hc hF
        refine lv_iconst (v := (1 : Int32)) hx hb dX10_lengthOf_38 (by decide) ?_
        refine lv_goto (tgt := 43) hx hb dX10_lengthOf_39 (by decide) ?_
        exact wX10_lengthOf_43 ad A C0 M hr hF (lv_sub hl [0, 1, 3] rfl) Kr Kh0
set_option maxHeartbeats 4000000 in
set_option maxRecDepth 100000 in
theorem tX10_lengthOf (l : Launch) (D : va_G) (cy : Nat → ClassId) (ad : Nat → Nat) (A : Nat → Prop) {S : MS} {a0 : Nat} {a1 : Int32} {r : Int32} (h : fX10_lengthOf S a0 a1 = some r) : Met l yX10_lengthOf [Cond.code yX10_lengthOf cX10_lengthOf 4 (some .int)] rmX10_lengthOf (PcR D cy ad A S [.ref (ad a0), .int a1]) (QcS (some (.int r))) 0 0 (fun _ => False) := by
  refine met_R (by decide +kernel) cw_X10_lengthOf (Nat.le_of_ble_eq_true rfl) ?_
  intro p e s m args below meth c ls C0 M hr hl
  have hl : lv_has ls 4 [(0, .ref (ad a0)), (1, .int a1)] := hl
  have key := lim_walk (step := sX10_lengthOf S) (fun (q : (Nat × Int32 × Int32 × Int32)) (r9 : Int32) => ∀ (r : Int32), r9 = r → ((∀ (y0 : Nat) (y1 : Int32) (y2 : Int32) (y3 : Int32), q = (y0, y1, y2, y3) → ∀ (ls1 : Array Slot), lv_has ls1 4 [(0, .ref (ad y0)), (1, .int y1), (2, .int y2), (3, .int y3)] → W p l e rmX10_lengthOf s m args below meth c s.heap [] 0 0 (MQ below (QcS (some (.int r))) args s 0 0 (fun _ => False)) (F0 m 4 ls1 [])))) ?_
  · unfold fX10_lengthOf at h
    cases hs0 : bX10_lengthOf_0 S a0 a1 with
    | none => rw [hs0] at h; cases h
    | some out =>
      rw [hs0] at h
      refine wX10_lengthOf_0 ad A C0 M hr hs0 hl (fun r9 hr9 => ?_) ?_
      · subst hr9; exact Option.some.inj h
      · intro y0 y1 y2 y3 hq; subst hq; exact (key _ _ h _ rfl) _ _ _ _ rfl
  · intro q r9 out hst hre hin9
    intro r er; subst er
    refine ?_
    · intro y0 y1 y2 y3 hq ls1 hl
      subst hq
      exact wX10_lengthOf_4 ad A C0 M hr hst hl hre (fun k0 k1 k2 k3 hk => (hin9 _ hk _ rfl) _ _ _ _ rfl)
set_option maxHeartbeats 4000000 in
set_option maxRecDepth 100000 in
theorem wX10_level_30 {p : Program} {l : Launch} {e : Env} {s : State} {m : MethodId} {args : Array Value} {below : List Frame} {meth : Method} {c : Code} {D : va_G} {cy : Nat → ClassId} (ad : Nat → Nat) (A : Nat → Prop) {S : MS} {S' : MS} {H : Heap} {locs : List Loc} {n0 : Nat} {r : Int32} {ls : Array Slot} {z0 : Int32} (C0 : CX p s m args meth c RX10 cX10_level 3 D cy) (M : ST D cy ad A s.heap (ZN n0 s.heap.size) S H locs) (hr : meth.sig.returnType = some .int) (hF : bX10_level_30 S z0 = some (r, S')) (hl : lv_has ls 3 []) : W p l e rmX10_level s m args below meth c H locs 0 0 (MQ below (QcM D cy ad A n0 S' (some (.int r))) args s 0 0 A) (F0 m 30 ls [.int z0]) := by
  unfold bX10_level_30 at hF
  obtain ⟨hx, hb, -, hown, -, hts, -⟩ := id C0
  obtain ⟨rfl, rfl⟩ := Prod.mk.inj (Option.some.inj hF)
  exact rt_MI C0 M hr dX10_level_30
set_option maxHeartbeats 4000000 in
set_option maxRecDepth 100000 in
theorem wX10_level_0 {p : Program} {l : Launch} {e : Env} {s : State} {m : MethodId} {args : Array Value} {below : List Frame} {meth : Method} {c : Code} {D : va_G} {cy : Nat → ClassId} (ad : Nat → Nat) (A : Nat → Prop) {S : MS} {S' : MS} {H : Heap} {locs : List Loc} {n0 : Nat} {r : Int32} {ls : Array Slot} {x0 : Nat} {x1 : Int32} (C0 : CX p s m args meth c RX10 cX10_level 3 D cy) (M : ST D cy ad A s.heap (ZN n0 s.heap.size) S H locs) (hr : meth.sig.returnType = some .int) (hF : bX10_level_0 S x0 x1 = some (r, S')) (hl : lv_has ls 3 [(0, .ref (ad x0)), (1, .int x1)]) : W p l e rmX10_level s m args below meth c H locs 0 0 (MQ below (QcM D cy ad A n0 S' (some (.int r))) args s 0 0 A) (F0 m 0 ls []) := by
  unfold bX10_level_0 at hF
  obtain ⟨hx, hb, -, hown, -, hts, -⟩ := id C0
  refine lv_aload_n hx hb dX10_level_0 rfl (lv_at hl 0 rfl) ?_
  refine lv_iload_n hx hb dX10_level_1 rfl (lv_at hl 1 rfl) ?_
  refine lv_iconst (v := (1 : Int32)) hx hb dX10_level_2 (by decide) ?_
  obtain ⟨_, hrec, hF⟩ := ob hF
  obtain ⟨v3, S3, hcl, hF⟩ := ob2 hF
  refine go_MI (r_V (rest := []) (As := [.int x1, .int (1 : Int32)]) C0 cb_X10_287 M.1 hrec (tX10_noAsking l D cy ad A hcl) (pre_R C0 M.1) hl dX10_level_3 rfl (Nat.le_of_ble_eq_true rfl) ⟨rfl, rfl⟩ ⟨Nat.le_of_ble_eq_true rfl, Nat.le_of_ble_eq_true rfl⟩ ⟨Nat.le_of_ble_eq_true rfl, Nat.le_of_ble_eq_true rfl⟩ rfl) M (fun H locs M => ?_)
  refine lv_istore_n (lv' := [(2, .int v3), (0, .ref (ad x0)), (1, .int x1)]) hx hb dX10_level_6 rfl hl (by decide) rfl (fun ls hl => ?_)
  refine lv_iload_n hx hb dX10_level_7 rfl (lv_at hl 0 rfl) ?_
  refine lv_if_ge (tgt := 15) hx hb dX10_level_8 (by decide) (fun hc => ?_) (fun hc => ?_)
  · have hF := oi_t hc hF
    refine lv_aload_n hx hb dX10_level_15 rfl (lv_at hl 1 rfl) ?_
    refine lv_aload_n hx hb dX10_level_16 rfl (lv_at hl 1 rfl) ?_
    obtain ⟨v17, hv, hF⟩ := ob hF
    refine k_getP C0 M.1 hv fl_X10_28 dX10_level_17 ?_
    refine lv_iload_n hx hb dX10_level_20 rfl (lv_at hl 2 rfl) ?_
    obtain ⟨v21, hv, hF⟩ := ob hF
    refine k_ld C0 M.1 hv dX10_level_21 ?_
    refine lv_aload_n hx hb dX10_level_22 rfl (lv_at hl 1 rfl) ?_
    refine lv_iload_n hx hb dX10_level_23 rfl (lv_at hl 2 rfl) ?_
    obtain ⟨_, hrec, hF⟩ := ob hF
    obtain ⟨v24, hcl, hF⟩ := ob hF
    refine go_SI (r_V (rest := [.int v21, .ref (ad x0)]) (As := [.int x1]) C0 cb_X10_278 M.1 hrec (tX10_mendedOf l D cy ad A hcl) (pre_R C0 M.1) hl dX10_level_24 rfl (Nat.le_of_ble_eq_true rfl) ⟨rfl, rfl⟩ ⟨Nat.le_of_ble_eq_true rfl, Nat.le_of_ble_eq_true rfl⟩ ⟨Nat.le_of_ble_eq_true rfl, Nat.le_of_ble_eq_true rfl⟩ rfl) ?_
    obtain ⟨_, hrec, hF⟩ := ob hF
    obtain ⟨v27, hcl, hF⟩ := ob hF
    refine go_SI (r_V (rest := []) (As := [.int v21, .int v24]) C0 cb_X10_251 M.1 hrec (tX10_levelBy l D cy ad A hcl) (pre_R C0 M.1) hl dX10_level_27 rfl (Nat.le_of_ble_eq_true rfl) ⟨rfl, rfl⟩ ⟨Nat.le_of_ble_eq_true rfl, Nat.le_of_ble_eq_true rfl⟩ ⟨Nat.le_of_ble_eq_true rfl, Nat.le_of_ble_eq_true rfl⟩ rfl) ?_
    exact wX10_level_30 ad A C0 M hr hF (lv_sub hl [] rfl)
  · have hF := oi_f hc hF
    refine lv_iload_n hx hb dX10_level_11 rfl (lv_at hl 0 rfl) ?_
    refine lv_goto (tgt := 30) hx hb dX10_level_12 (by decide) ?_
    exact wX10_level_30 ad A C0 M hr hF (lv_sub hl [] rfl)
set_option maxHeartbeats 4000000 in
set_option maxRecDepth 100000 in
theorem tX10_level (l : Launch) (D : va_G) (cy : Nat → ClassId) (ad : Nat → Nat) (A : Nat → Prop) {S S' : MS} {a0 : Nat} {a1 : Int32} {r : Int32} (h : fX10_level S a0 a1 = some (r, S')) : Met l yX10_level [Cond.code yX10_level cX10_level 3 (some .int)] rmX10_level (PcR D cy ad A S [.ref (ad a0), .int a1]) (QcM D cy ad A (m_n S) S' (some (.int r))) 0 0 A := by
  refine met_M (by decide +kernel) cw_X10_level (Nat.le_of_ble_eq_true rfl) ?_
  intro p e s m args below meth c ls C0 M hr hin hl
  have hl : lv_has ls 3 [(0, .ref (ad a0)), (1, .int a1)] := hl
  exact wX10_level_0 ad A C0 M hr h hl
set_option maxHeartbeats 4000000 in
set_option maxRecDepth 100000 in
theorem wX10_piecesOf_0 {p : Program} {l : Launch} {e : Env} {s : State} {m : MethodId} {args : Array Value} {below : List Frame} {meth : Method} {c : Code} {D : va_G} {cy : Nat → ClassId} (ad : Nat → Nat) (A : Nat → Prop) {S : MS} {S' : MS} {H : Heap} {locs : List Loc} {n0 : Nat} {r : Int32} {out : (((Nat × Int32 × Int32 × Int32 × MS) ⊕ (Nat × Int32 × Int32 × Int32 × Int32 × MS)) ⊕ (Int32 × MS))} {ls : Array Slot} {x0 : Nat} {x1 : Int32} {x2 : Int32} (C0 : CX p s m args meth c RX10 cX10_piecesOf 5 D cy) (M : ST D cy ad A s.heap (ZN n0 s.heap.size) S H locs) (hr : meth.sig.returnType = some .int) (hF : bX10_piecesOf_0 S x0 x1 x2 = some out) (hl : lv_has ls 5 [(0, .ref (ad x0)), (1, .int x1), (2, .int x2)]) (Kr : ∀ r9, out = .inr r9 → r9 = (r, S')) (Kh0 : ∀ (y0 : Nat) (y1 : Int32) (y2 : Int32) (y3 : Int32) (S2 : MS), out = .inl (.inl (y0, y1, y2, y3, S2)) → ∀ (H1 : Heap) (locs1 : List Loc) (ls1 : Array Slot), ST D cy ad A s.heap (ZN n0 s.heap.size) S2 H1 locs1 → lv_has ls1 5 [(0, .ref (ad y0)), (1, .int y1), (2, .int y2), (3, .int y3)] → W p l e rmX10_piecesOf s m args below meth c H1 locs1 0 0 (MQ below (QcM D cy ad A n0 S' (some (.int r))) args s 0 0 A) (F0 m 2 ls1 [])) (Kh1 : ∀ (y0 : Nat) (y1 : Int32) (y2 : Int32) (y3 : Int32) (y4 : Int32) (S2 : MS), out = .inl (.inr (y0, y1, y2, y3, y4, S2)) → ∀ (H1 : Heap) (locs1 : List Loc) (ls1 : Array Slot), ST D cy ad A s.heap (ZN n0 s.heap.size) S2 H1 locs1 → lv_has ls1 5 [(0, .ref (ad y0)), (1, .int y1), (2, .int y2), (3, .int y3), (4, .int y4)] → W p l e rmX10_piecesOf s m args below meth c H1 locs1 0 0 (MQ below (QcM D cy ad A n0 S' (some (.int r))) args s 0 0 A) (F0 m 27 ls1 [])) : W p l e rmX10_piecesOf s m args below meth c H locs 0 0 (MQ below (QcM D cy ad A n0 S' (some (.int r))) args s 0 0 A) (F0 m 0 ls []) := by
  unfold bX10_piecesOf_0 at hF
  obtain ⟨hx, hb, -, hown, -, hts, -⟩ := id C0
  refine lv_iconst (v := (0 : Int32)) hx hb dX10_piecesOf_0 (by decide) ?_
  refine lv_istore_n (lv' := [(3, .int (0 : Int32)), (0, .ref (ad x0)), (1, .int x1), (2, .int x2)]) hx hb dX10_piecesOf_1 rfl hl (by decide) rfl (fun ls hl => ?_)
  exact Kh0 _ _ _ _ _ (Option.some.inj hF).symm _ _ _ M (lv_sub hl [1, 2, 3, 0] rfl)
set_option maxHeartbeats 4000000 in
set_option maxRecDepth 100000 in
theorem wX10_piecesOf_2 {p : Program} {l : Launch} {e : Env} {s : State} {m : MethodId} {args : Array Value} {below : List Frame} {meth : Method} {c : Code} {D : va_G} {cy : Nat → ClassId} (ad : Nat → Nat) (A : Nat → Prop) {S : MS} {S' : MS} {H : Heap} {locs : List Loc} {n0 : Nat} {r : Int32} {out : (((Nat × Int32 × Int32 × Int32 × MS) ⊕ (Nat × Int32 × Int32 × Int32 × Int32 × MS)) ⊕ (Int32 × MS))} {ls : Array Slot} {x0 : Nat} {x1 : Int32} {x2 : Int32} {x3 : Int32} (C0 : CX p s m args meth c RX10 cX10_piecesOf 5 D cy) (M : ST D cy ad A s.heap (ZN n0 s.heap.size) S H locs) (hr : meth.sig.returnType = some .int) (hF : bX10_piecesOf_2 S x0 x1 x2 x3 = some out) (hl : lv_has ls 5 [(0, .ref (ad x0)), (1, .int x1), (2, .int x2), (3, .int x3)]) (Kr : ∀ r9, out = .inr r9 → r9 = (r, S')) (Kh0 : ∀ (y0 : Nat) (y1 : Int32) (y2 : Int32) (y3 : Int32) (S2 : MS), out = .inl (.inl (y0, y1, y2, y3, S2)) → ∀ (H1 : Heap) (locs1 : List Loc) (ls1 : Array Slot), ST D cy ad A s.heap (ZN n0 s.heap.size) S2 H1 locs1 → lv_has ls1 5 [(0, .ref (ad y0)), (1, .int y1), (2, .int y2), (3, .int y3)] → W p l e rmX10_piecesOf s m args below meth c H1 locs1 0 0 (MQ below (QcM D cy ad A n0 S' (some (.int r))) args s 0 0 A) (F0 m 2 ls1 [])) (Kh1 : ∀ (y0 : Nat) (y1 : Int32) (y2 : Int32) (y3 : Int32) (y4 : Int32) (S2 : MS), out = .inl (.inr (y0, y1, y2, y3, y4, S2)) → ∀ (H1 : Heap) (locs1 : List Loc) (ls1 : Array Slot), ST D cy ad A s.heap (ZN n0 s.heap.size) S2 H1 locs1 → lv_has ls1 5 [(0, .ref (ad y0)), (1, .int y1), (2, .int y2), (3, .int y3), (4, .int y4)] → W p l e rmX10_piecesOf s m args below meth c H1 locs1 0 0 (MQ below (QcM D cy ad A n0 S' (some (.int r))) args s 0 0 A) (F0 m 27 ls1 [])) : W p l e rmX10_piecesOf s m args below meth c H locs 0 0 (MQ below (QcM D cy ad A n0 S' (some (.int r))) args s 0 0 A) (F0 m 2 ls []) := by
  unfold bX10_piecesOf_2 at hF
  obtain ⟨hx, hb, -, hown, -, hts, -⟩ := id C0
  refine lv_iload_n hx hb dX10_piecesOf_2 rfl (lv_at hl 3 rfl) ?_
  refine lv_sipush (v := (144 : Int32)) hx hb dX10_piecesOf_3 (by decide) ?_
  refine lv_icmp_ge (tgt := 22) hx hb dX10_piecesOf_6 (by decide) (fun hc => ?_) (fun hc => ?_)
  · have hF := oi_t hc hF
    refine lv_iconst (v := (0 : Int32)) hx hb dX10_piecesOf_22 (by decide) ?_
    refine lv_istore_n (lv' := [(3, .int (0 : Int32)), (0, .ref (ad x0)), (1, .int x1), (2, .int x2)]) hx hb dX10_piecesOf_23 rfl hl (by decide) rfl (fun ls hl => ?_)
    refine lv_iconst (v := (0 : Int32)) hx hb dX10_piecesOf_24 (by decide) ?_
    refine lv_istore (lv' := [(4, .int (0 : Int32)), (3, .int (0 : Int32)), (0, .ref (ad x0)), (1, .int x1), (2, .int x2)]) hx hb dX10_piecesOf_25 hl (by decide) rfl (fun ls hl => ?_)
    exact Kh1 _ _ _ _ _ _ (Option.some.inj hF).symm _ _ _ M (lv_sub hl [2, 3, 4, 1, 0] rfl)
  · have hF := oi_f hc hF
    refine lv_aload_n hx hb dX10_piecesOf_9 rfl (lv_at hl 0 rfl) ?_
    obtain ⟨v10, hv, hF⟩ := ob hF
    refine k_getP C0 M.1 hv fl_X10_64 dX10_piecesOf_10 ?_
    refine lv_iload_n hx hb dX10_piecesOf_13 rfl (lv_at hl 3 rfl) ?_
    refine lv_iconst (v := (0 : Int32)) hx hb dX10_piecesOf_14 (by decide) ?_
    have hz : o_zb (0 : Int32) = some (0 : Int32) := rfl
    obtain ⟨S15, hv, hF⟩ := ob hF
    refine k_stZ C0 M hz hv dX10_piecesOf_15 (fun H locs M => ?_)
    obtain ⟨v16, hv, hF⟩ := ob hF
    refine lv_iinc (v := v16) (lv' := [(3, .int v16), (0, .ref (ad x0)), (1, .int x1), (2, .int x2)]) hx hb dX10_piecesOf_16 hl (k := 3) rfl (by rw [← vtI hv]; rfl) (by decide) rfl (fun ls hl => ?_)
    refine lv_goto (tgt := 2) hx hb dX10_piecesOf_19 (by decide) ?_
    exact Kh0 _ _ _ _ _ (Option.some.inj hF).symm _ _ _ M (lv_sub hl [1, 2, 3, 0] rfl)
set_option maxHeartbeats 4000000 in
set_option maxRecDepth 100000 in
theorem wX10_piecesOf_57 {p : Program} {l : Launch} {e : Env} {s : State} {m : MethodId} {args : Array Value} {below : List Frame} {meth : Method} {c : Code} {D : va_G} {cy : Nat → ClassId} (ad : Nat → Nat) (A : Nat → Prop) {S : MS} {S' : MS} {H : Heap} {locs : List Loc} {n0 : Nat} {r : Int32} {out : (((Nat × Int32 × Int32 × Int32 × MS) ⊕ (Nat × Int32 × Int32 × Int32 × Int32 × MS)) ⊕ (Int32 × MS))} {ls : Array Slot} {x0 : Nat} {x1 : Int32} {x2 : Int32} {x3 : Int32} {x4 : Int32} (C0 : CX p s m args meth c RX10 cX10_piecesOf 5 D cy) (M : ST D cy ad A s.heap (ZN n0 s.heap.size) S H locs) (hr : meth.sig.returnType = some .int) (hF : bX10_piecesOf_57 S x0 x1 x2 x3 x4 = some out) (hl : lv_has ls 5 [(0, .ref (ad x0)), (1, .int x1), (2, .int x2), (3, .int x3), (4, .int x4)]) (Kr : ∀ r9, out = .inr r9 → r9 = (r, S')) (Kh0 : ∀ (y0 : Nat) (y1 : Int32) (y2 : Int32) (y3 : Int32) (S2 : MS), out = .inl (.inl (y0, y1, y2, y3, S2)) → ∀ (H1 : Heap) (locs1 : List Loc) (ls1 : Array Slot), ST D cy ad A s.heap (ZN n0 s.heap.size) S2 H1 locs1 → lv_has ls1 5 [(0, .ref (ad y0)), (1, .int y1), (2, .int y2), (3, .int y3)] → W p l e rmX10_piecesOf s m args below meth c H1 locs1 0 0 (MQ below (QcM D cy ad A n0 S' (some (.int r))) args s 0 0 A) (F0 m 2 ls1 [])) (Kh1 : ∀ (y0 : Nat) (y1 : Int32) (y2 : Int32) (y3 : Int32) (y4 : Int32) (S2 : MS), out = .inl (.inr (y0, y1, y2, y3, y4, S2)) → ∀ (H1 : Heap) (locs1 : List Loc) (ls1 : Array Slot), ST D cy ad A s.heap (ZN n0 s.heap.size) S2 H1 locs1 → lv_has ls1 5 [(0, .ref (ad y0)), (1, .int y1), (2, .int y2), (3, .int y3), (4, .int y4)] → W p l e rmX10_piecesOf s m args below meth c H1 locs1 0 0 (MQ below (QcM D cy ad A n0 S' (some (.int r))) args s 0 0 A) (F0 m 27 ls1 [])) : W p l e rmX10_piecesOf s m args below meth c H locs 0 0 (MQ below (QcM D cy ad A n0 S' (some (.int r))) args s 0 0 A) (F0 m 57 ls []) := by
  unfold bX10_piecesOf_57 at hF
  obtain ⟨hx, hb, -, hown, -, hts, -⟩ := id C0
  obtain ⟨v57, hv, hF⟩ := ob hF
  refine lv_iinc (v := v57) (lv' := [(4, .int v57), (0, .ref (ad x0)), (1, .int x1), (2, .int x2), (3, .int x3)]) hx hb dX10_piecesOf_57 hl (k := 4) rfl (by rw [← vtI hv]; rfl) (by decide) rfl (fun ls hl => ?_)
  refine lv_goto (tgt := 27) hx hb dX10_piecesOf_60 (by decide) ?_
  exact Kh1 _ _ _ _ _ _ (Option.some.inj hF).symm _ _ _ M (lv_sub hl [1, 2, 3, 4, 0] rfl)
set_option maxHeartbeats 4000000 in
set_option maxRecDepth 100000 in
theorem wX10_piecesOf_27 {p : Program} {l : Launch} {e : Env} {s : State} {m : MethodId} {args : Array Value} {below : List Frame} {meth : Method} {c : Code} {D : va_G} {cy : Nat → ClassId} (ad : Nat → Nat) (A : Nat → Prop) {S : MS} {S' : MS} {H : Heap} {locs : List Loc} {n0 : Nat} {r : Int32} {out : (((Nat × Int32 × Int32 × Int32 × MS) ⊕ (Nat × Int32 × Int32 × Int32 × Int32 × MS)) ⊕ (Int32 × MS))} {ls : Array Slot} {x0 : Nat} {x1 : Int32} {x2 : Int32} {x3 : Int32} {x4 : Int32} (C0 : CX p s m args meth c RX10 cX10_piecesOf 5 D cy) (M : ST D cy ad A s.heap (ZN n0 s.heap.size) S H locs) (hr : meth.sig.returnType = some .int) (hF : bX10_piecesOf_27 S x0 x1 x2 x3 x4 = some out) (hl : lv_has ls 5 [(0, .ref (ad x0)), (1, .int x1), (2, .int x2), (3, .int x3), (4, .int x4)]) (Kr : ∀ r9, out = .inr r9 → r9 = (r, S')) (Kh0 : ∀ (y0 : Nat) (y1 : Int32) (y2 : Int32) (y3 : Int32) (S2 : MS), out = .inl (.inl (y0, y1, y2, y3, S2)) → ∀ (H1 : Heap) (locs1 : List Loc) (ls1 : Array Slot), ST D cy ad A s.heap (ZN n0 s.heap.size) S2 H1 locs1 → lv_has ls1 5 [(0, .ref (ad y0)), (1, .int y1), (2, .int y2), (3, .int y3)] → W p l e rmX10_piecesOf s m args below meth c H1 locs1 0 0 (MQ below (QcM D cy ad A n0 S' (some (.int r))) args s 0 0 A) (F0 m 2 ls1 [])) (Kh1 : ∀ (y0 : Nat) (y1 : Int32) (y2 : Int32) (y3 : Int32) (y4 : Int32) (S2 : MS), out = .inl (.inr (y0, y1, y2, y3, y4, S2)) → ∀ (H1 : Heap) (locs1 : List Loc) (ls1 : Array Slot), ST D cy ad A s.heap (ZN n0 s.heap.size) S2 H1 locs1 → lv_has ls1 5 [(0, .ref (ad y0)), (1, .int y1), (2, .int y2), (3, .int y3), (4, .int y4)] → W p l e rmX10_piecesOf s m args below meth c H1 locs1 0 0 (MQ below (QcM D cy ad A n0 S' (some (.int r))) args s 0 0 A) (F0 m 27 ls1 [])) : W p l e rmX10_piecesOf s m args below meth c H locs 0 0 (MQ below (QcM D cy ad A n0 S' (some (.int r))) args s 0 0 A) (F0 m 27 ls []) := by
  unfold bX10_piecesOf_27 at hF
  obtain ⟨hx, hb, -, hown, -, hts, -⟩ := id C0
  refine lv_iload hx hb dX10_piecesOf_27 (lv_at hl 4 rfl) ?_
  refine lv_sipush (v := (144 : Int32)) hx hb dX10_piecesOf_29 (by decide) ?_
  refine lv_icmp_ge (tgt := 63) hx hb dX10_piecesOf_32 (by decide) (fun hc => ?_) (fun hc => ?_)
  · have hF := oi_t hc hF
    refine lv_iload_n hx hb dX10_piecesOf_63 rfl (lv_at hl 3 rfl) ?_
    obtain ⟨rfl, rfl⟩ := Prod.mk.inj (Kr _ (Option.some.inj hF).symm)
    exact rt_MI C0 M hr dX10_piecesOf_64
  · have hF := oi_f hc hF
    refine lv_aload_n hx hb dX10_piecesOf_35 rfl (lv_at hl 0 rfl) ?_
    refine lv_iload hx hb dX10_piecesOf_36 (lv_at hl 4 rfl) ?_
    refine lv_iload_n hx hb dX10_piecesOf_38 rfl (lv_at hl 2 rfl) ?_
    refine lv_iload_n hx hb dX10_piecesOf_39 rfl (lv_at hl 1 rfl) ?_
    obtain ⟨_, hrec, hF⟩ := ob hF
    obtain ⟨v40, hcl, hF⟩ := ob hF
    refine go_SI (r_V (rest := []) (As := [.int x4, .int x2, .int x1]) C0 cb_X10_296 M.1 hrec (tX10_mayGo l D cy ad A hcl) (pre_R C0 M.1) hl dX10_piecesOf_40 rfl (Nat.le_of_ble_eq_true rfl) ⟨rfl, rfl⟩ ⟨Nat.le_of_ble_eq_true rfl, Nat.le_of_ble_eq_true rfl⟩ ⟨Nat.le_of_ble_eq_true rfl, Nat.le_of_ble_eq_true rfl⟩ rfl) ?_
    refine lv_if_eq (tgt := 57) hx hb dX10_piecesOf_43 (by decide) (fun hc => ?_) (fun hc => ?_)
    · have hF := oi_t hc hF
      exact wX10_piecesOf_57 ad A C0 M hr hF (lv_sub hl [0, 1, 2, 3, 4] rfl) Kr Kh0 Kh1
    · have hF := oi_f hc hF
      refine lv_aload_n hx hb dX10_piecesOf_46 rfl (lv_at hl 0 rfl) ?_
      refine lv_iload hx hb dX10_piecesOf_47 (lv_at hl 4 rfl) ?_
      refine lv_iload_n hx hb dX10_piecesOf_49 rfl (lv_at hl 2 rfl) ?_
      refine lv_iload_n hx hb dX10_piecesOf_50 rfl (lv_at hl 1 rfl) ?_
      obtain ⟨_, hrec, hF⟩ := ob hF
      obtain ⟨S51, hcl, hF⟩ := ob hF
      refine go_MV (r_V (rest := []) (As := [.int x4, .int x2, .int x1]) C0 cb_X10_300 M.1 hrec (tX10_fill l D cy ad A hcl) (pre_R C0 M.1) hl dX10_piecesOf_51 rfl (Nat.le_of_ble_eq_true rfl) ⟨rfl, rfl⟩ ⟨Nat.le_of_ble_eq_true rfl, Nat.le_of_ble_eq_true rfl⟩ ⟨Nat.le_of_ble_eq_true rfl, Nat.le_of_ble_eq_true rfl⟩ rfl) M (fun H locs M => ?_)
      obtain ⟨v54, hv, hF⟩ := ob hF
      refine lv_iinc (v := v54) (lv' := [(3, .int v54), (0, .ref (ad x0)), (1, .int x1), (2, .int x2), (4, .int x4)]) hx hb dX10_piecesOf_54 hl (k := 3) rfl (by rw [← vtI hv]; rfl) (by decide) rfl (fun ls hl => ?_)
      exact wX10_piecesOf_57 ad A C0 M hr hF (lv_sub hl [1, 2, 3, 0, 4] rfl) Kr Kh0 Kh1
set_option maxHeartbeats 4000000 in
set_option maxRecDepth 100000 in
theorem tX10_piecesOf (l : Launch) (D : va_G) (cy : Nat → ClassId) (ad : Nat → Nat) (A : Nat → Prop) {S S' : MS} {a0 : Nat} {a1 : Int32} {a2 : Int32} {r : Int32} (h : fX10_piecesOf S a0 a1 a2 = some (r, S')) : Met l yX10_piecesOf [Cond.code yX10_piecesOf cX10_piecesOf 5 (some .int)] rmX10_piecesOf (PcR D cy ad A S [.ref (ad a0), .int a1, .int a2]) (QcM D cy ad A (m_n S) S' (some (.int r))) 0 0 A := by
  refine met_M (by decide +kernel) cw_X10_piecesOf (Nat.le_of_ble_eq_true rfl) ?_
  intro p e s m args below meth c ls C0 M hr hin hl
  have hl : lv_has ls 5 [(0, .ref (ad a0)), (1, .int a1), (2, .int a2)] := hl
  have key := lim_walk (step := sX10_piecesOf) (fun (q : ((Nat × Int32 × Int32 × Int32 × MS) ⊕ (Nat × Int32 × Int32 × Int32 × Int32 × MS))) (r9 : (Int32 × MS)) => ∀ (r : Int32) (S' : MS), r9 = (r, S') → ((∀ (y0 : Nat) (y1 : Int32) (y2 : Int32) (y3 : Int32) (S2 : MS), q = (.inl (y0, y1, y2, y3, S2)) → ∀ (H1 : Heap) (locs1 : List Loc) (ls1 : Array Slot), ST D cy ad A s.heap (ZN (m_n S) s.heap.size) S2 H1 locs1 → lv_has ls1 5 [(0, .ref (ad y0)), (1, .int y1), (2, .int y2), (3, .int y3)] → W p l e rmX10_piecesOf s m args below meth c H1 locs1 0 0 (MQ below (QcM D cy ad A (m_n S) S' (some (.int r))) args s 0 0 A) (F0 m 2 ls1 [])) ∧ (∀ (y0 : Nat) (y1 : Int32) (y2 : Int32) (y3 : Int32) (y4 : Int32) (S2 : MS), q = (.inr (y0, y1, y2, y3, y4, S2)) → ∀ (H1 : Heap) (locs1 : List Loc) (ls1 : Array Slot), ST D cy ad A s.heap (ZN (m_n S) s.heap.size) S2 H1 locs1 → lv_has ls1 5 [(0, .ref (ad y0)), (1, .int y1), (2, .int y2), (3, .int y3), (4, .int y4)] → W p l e rmX10_piecesOf s m args below meth c H1 locs1 0 0 (MQ below (QcM D cy ad A (m_n S) S' (some (.int r))) args s 0 0 A) (F0 m 27 ls1 [])))) ?_
  · unfold fX10_piecesOf at h
    cases hs0 : bX10_piecesOf_0 S a0 a1 a2 with
    | none => rw [hs0] at h; cases h
    | some out =>
      rw [hs0] at h
      refine wX10_piecesOf_0 ad A C0 M hr hs0 hl (fun r9 hr9 => ?_) ?_ ?_
      · subst hr9; exact Option.some.inj h
      · intro y0 y1 y2 y3 y4 hq; subst hq; exact (key _ _ h _ _ rfl).1 _ _ _ _ _ rfl
      · intro y0 y1 y2 y3 y4 y5 hq; subst hq; exact (key _ _ h _ _ rfl).2 _ _ _ _ _ _ rfl
  · intro q r9 out hst hre hin9
    intro r S' er; subst er
    refine ⟨?_, ?_⟩
    · intro y0 y1 y2 y3 y4 hq H1 locs1 ls1 M hl
      subst hq
      exact wX10_piecesOf_2 ad A C0 M hr hst hl hre (fun k0 k1 k2 k3 k4 hk => (hin9 _ hk _ _ rfl).1 _ _ _ _ _ rfl) (fun k0 k1 k2 k3 k4 k5 hk => (hin9 _ hk _ _ rfl).2 _ _ _ _ _ _ rfl)
    · intro y0 y1 y2 y3 y4 y5 hq H1 locs1 ls1 M hl
      subst hq
      exact wX10_piecesOf_27 ad A C0 M hr hst hl hre (fun k0 k1 k2 k3 k4 hk => (hin9 _ hk _ _ rfl).1 _ _ _ _ _ rfl) (fun k0 k1 k2 k3 k4 k5 hk => (hin9 _ hk _ _ rfl).2 _ _ _ _ _ _ rfl)
set_option maxHeartbeats 4000000 in
set_option maxRecDepth 100000 in
theorem wX10_wrongOf_0 {p : Program} {l : Launch} {e : Env} {s : State} {m : MethodId} {args : Array Value} {below : List Frame} {meth : Method} {c : Code} {D : va_G} {cy : Nat → ClassId} (ad : Nat → Nat) (A : Nat → Prop) {S : MS} {r : Int32} {out : ((Nat × Int32 × Int32 × Int32) ⊕ Int32)} {ls : Array Slot} {x0 : Nat} {x1 : Int32} (C0 : CX p s m args meth c RX10 cX10_wrongOf 4 D cy) (M : MW D cy ad A S s.heap) (hr : meth.sig.returnType = some .int) (hF : bX10_wrongOf_0 S x0 x1 = some out) (hl : lv_has ls 4 [(0, .ref (ad x0)), (1, .int x1)]) (Kr : ∀ r9, out = .inr r9 → r9 = r) (Kh0 : ∀ (y0 : Nat) (y1 : Int32) (y2 : Int32) (y3 : Int32), out = .inl (y0, y1, y2, y3) → ∀ (ls1 : Array Slot), lv_has ls1 4 [(0, .ref (ad y0)), (1, .int y1), (2, .int y2), (3, .int y3)] → W p l e rmX10_wrongOf s m args below meth c s.heap [] 0 0 (MQ below (QcS (some (.int r))) args s 0 0 (fun _ => False)) (F0 m 4 ls1 [])) : W p l e rmX10_wrongOf s m args below meth c s.heap [] 0 0 (MQ below (QcS (some (.int r))) args s 0 0 (fun _ => False)) (F0 m 0 ls []) := by
  unfold bX10_wrongOf_0 at hF
  obtain ⟨hx, hb, -, hown, -, hts, -⟩ := id C0
  refine lv_iconst (v := (0 : Int32)) hx hb dX10_wrongOf_0 (by decide) ?_
  refine lv_istore_n (lv' := [(2, .int (0 : Int32)), (0, .ref (ad x0)), (1, .int x1)]) hx hb dX10_wrongOf_1 rfl hl (by decide) rfl (fun ls hl => ?_)
  refine lv_iconst (v := (0 : Int32)) hx hb dX10_wrongOf_2 (by decide) ?_
  refine lv_istore_n (lv' := [(3, .int (0 : Int32)), (2, .int (0 : Int32)), (0, .ref (ad x0)), (1, .int x1)]) hx hb dX10_wrongOf_3 rfl hl (by decide) rfl (fun ls hl => ?_)
  exact Kh0 _ _ _ _ (Option.some.inj hF).symm _ (lv_sub hl [2, 3, 1, 0] rfl)
set_option maxHeartbeats 4000000 in
set_option maxRecDepth 100000 in
theorem wX10_wrongOf_56 {p : Program} {l : Launch} {e : Env} {s : State} {m : MethodId} {args : Array Value} {below : List Frame} {meth : Method} {c : Code} {D : va_G} {cy : Nat → ClassId} (ad : Nat → Nat) (A : Nat → Prop) {S : MS} {r : Int32} {out : ((Nat × Int32 × Int32 × Int32) ⊕ Int32)} {ls : Array Slot} {x0 : Nat} {x1 : Int32} {x3 : Int32} {z0 : Int32} {z1 : Int32} (C0 : CX p s m args meth c RX10 cX10_wrongOf 4 D cy) (M : MW D cy ad A S s.heap) (hr : meth.sig.returnType = some .int) (hF : bX10_wrongOf_56 S x0 x1 x3 z0 z1 = some out) (hl : lv_has ls 4 [(0, .ref (ad x0)), (1, .int x1), (3, .int x3)]) (Kr : ∀ r9, out = .inr r9 → r9 = r) (Kh0 : ∀ (y0 : Nat) (y1 : Int32) (y2 : Int32) (y3 : Int32), out = .inl (y0, y1, y2, y3) → ∀ (ls1 : Array Slot), lv_has ls1 4 [(0, .ref (ad y0)), (1, .int y1), (2, .int y2), (3, .int y3)] → W p l e rmX10_wrongOf s m args below meth c s.heap [] 0 0 (MQ below (QcS (some (.int r))) args s 0 0 (fun _ => False)) (F0 m 4 ls1 [])) : W p l e rmX10_wrongOf s m args below meth c s.heap [] 0 0 (MQ below (QcS (some (.int r))) args s 0 0 (fun _ => False)) (F0 m 56 ls [.int z1, .int z0]) := by
  unfold bX10_wrongOf_56 at hF
  obtain ⟨hx, hb, -, hown, -, hts, -⟩ := id C0
  refine lv_iadd hx hb dX10_wrongOf_56 ?_
  obtain ⟨v57, hv, hF⟩ := ob hF
  have hv := vtI hv
  refine vtopi hv ?_
  refine lv_istore_n (lv' := [(2, .int v57), (0, .ref (ad x0)), (1, .int x1), (3, .int x3)]) hx hb dX10_wrongOf_57 rfl hl (by decide) rfl (fun ls hl => ?_)
  obtain ⟨v58, hv, hF⟩ := ob hF
  refine lv_iinc (v := v58) (lv' := [(3, .int v58), (2, .int v57), (0, .ref (ad x0)), (1, .int x1)]) hx hb dX10_wrongOf_58 hl (k := 3) rfl (by rw [← vtI hv]; rfl) (by decide) rfl (fun ls hl => ?_)
  refine lv_goto (tgt := 4) hx hb dX10_wrongOf_61 (by decide) ?_
  exact Kh0 _ _ _ _ (Option.some.inj hF).symm _ (lv_sub hl [2, 3, 1, 0] rfl)
set_option maxHeartbeats 4000000 in
set_option maxRecDepth 100000 in
theorem wX10_wrongOf_55 {p : Program} {l : Launch} {e : Env} {s : State} {m : MethodId} {args : Array Value} {below : List Frame} {meth : Method} {c : Code} {D : va_G} {cy : Nat → ClassId} (ad : Nat → Nat) (A : Nat → Prop) {S : MS} {r : Int32} {out : ((Nat × Int32 × Int32 × Int32) ⊕ Int32)} {ls : Array Slot} {x0 : Nat} {x1 : Int32} {x3 : Int32} {z0 : Int32} (C0 : CX p s m args meth c RX10 cX10_wrongOf 4 D cy) (M : MW D cy ad A S s.heap) (hr : meth.sig.returnType = some .int) (hF : bX10_wrongOf_55 S x0 x1 x3 z0 = some out) (hl : lv_has ls 4 [(0, .ref (ad x0)), (1, .int x1), (3, .int x3)]) (Kr : ∀ r9, out = .inr r9 → r9 = r) (Kh0 : ∀ (y0 : Nat) (y1 : Int32) (y2 : Int32) (y3 : Int32), out = .inl (y0, y1, y2, y3) → ∀ (ls1 : Array Slot), lv_has ls1 4 [(0, .ref (ad y0)), (1, .int y1), (2, .int y2), (3, .int y3)] → W p l e rmX10_wrongOf s m args below meth c s.heap [] 0 0 (MQ below (QcS (some (.int r))) args s 0 0 (fun _ => False)) (F0 m 4 ls1 [])) : W p l e rmX10_wrongOf s m args below meth c s.heap [] 0 0 (MQ below (QcS (some (.int r))) args s 0 0 (fun _ => False)) (F0 m 55 ls [.int z0]) := by
  unfold bX10_wrongOf_55 at hF
  obtain ⟨hx, hb, -, hown, -, hts, -⟩ := id C0
  refine lv_iconst (v := (0 : Int32)) hx hb dX10_wrongOf_55 (by decide) ?_
  exact wX10_wrongOf_56 ad A C0 M hr hF (lv_sub hl [0, 1, 2] rfl) Kr Kh0
set_option maxHeartbeats 4000000 in
set_option maxRecDepth 100000 in
theorem wX10_wrongOf_37 {p : Program} {l : Launch} {e : Env} {s : State} {m : MethodId} {args : Array Value} {below : List Frame} {meth : Method} {c : Code} {D : va_G} {cy : Nat → ClassId} (ad : Nat → Nat) (A : Nat → Prop) {S : MS} {r : Int32} {out : ((Nat × Int32 × Int32 × Int32) ⊕ Int32)} {ls : Array Slot} {x0 : Nat} {x1 : Int32} {x3 : Int32} {z0 : Int32} {z1 : Int32} (C0 : CX p s m args meth c RX10 cX10_wrongOf 4 D cy) (M : MW D cy ad A S s.heap) (hr : meth.sig.returnType = some .int) (hF : bX10_wrongOf_37 S x0 x1 x3 z0 z1 = some out) (hl : lv_has ls 4 [(0, .ref (ad x0)), (1, .int x1), (3, .int x3)]) (Kr : ∀ r9, out = .inr r9 → r9 = r) (Kh0 : ∀ (y0 : Nat) (y1 : Int32) (y2 : Int32) (y3 : Int32), out = .inl (y0, y1, y2, y3) → ∀ (ls1 : Array Slot), lv_has ls1 4 [(0, .ref (ad y0)), (1, .int y1), (2, .int y2), (3, .int y3)] → W p l e rmX10_wrongOf s m args below meth c s.heap [] 0 0 (MQ below (QcS (some (.int r))) args s 0 0 (fun _ => False)) (F0 m 4 ls1 [])) : W p l e rmX10_wrongOf s m args below meth c s.heap [] 0 0 (MQ below (QcS (some (.int r))) args s 0 0 (fun _ => False)) (F0 m 37 ls [.int z1, .int z0]) := by
  unfold bX10_wrongOf_37 at hF
  obtain ⟨hx, hb, -, hown, -, hts, -⟩ := id C0
  refine lv_aload_n hx hb dX10_wrongOf_37 rfl (lv_at hl 0 rfl) ?_
  refine lv_aload_n hx hb dX10_wrongOf_38 rfl (lv_at hl 0 rfl) ?_
  obtain ⟨v39, hv, hF⟩ := ob hF
  refine k_getP C0 M hv fl_X10_49 dX10_wrongOf_39 ?_
  refine lv_iload_n hx hb dX10_wrongOf_42 rfl (lv_at hl 2 rfl) ?_
  obtain ⟨v43, hv, hF⟩ := ob hF
  refine k_ld C0 M hv dX10_wrongOf_43 ?_
  refine lv_iload_n hx hb dX10_wrongOf_44 rfl (lv_at hl 1 rfl) ?_
  obtain ⟨_, hrec, hF⟩ := ob hF
  obtain ⟨v45, hcl, hF⟩ := ob hF
  refine go_SI (r_V (rest := [.int z1, .int z0]) (As := [.int v43, .int x1]) C0 cb_X10_293 M hrec (tX10_isBelow l D cy ad A hcl) (pre_R C0 M) hl dX10_wrongOf_45 rfl (Nat.le_of_ble_eq_true rfl) ⟨rfl, rfl⟩ ⟨Nat.le_of_ble_eq_true rfl, Nat.le_of_ble_eq_true rfl⟩ ⟨Nat.le_of_ble_eq_true rfl, Nat.le_of_ble_eq_true rfl⟩ rfl) ?_
  refine lv_icmp_eq (tgt := 55) hx hb dX10_wrongOf_48 (by decide) (fun hc => ?_) (fun hc => ?_)
  · have hF := oi_t hc hF
    exact wX10_wrongOf_55 ad A C0 M hr hF (lv_sub hl [0, 1, 2] rfl) Kr Kh0
  · have hF := oi_f hc hF
    refine lv_iconst (v := (1 : Int32)) hx hb dX10_wrongOf_51 (by decide) ?_
    refine lv_goto (tgt := 56) hx hb dX10_wrongOf_52 (by decide) ?_
    exact wX10_wrongOf_56 ad A C0 M hr hF (lv_sub hl [0, 1, 2] rfl) Kr Kh0
set_option maxHeartbeats 4000000 in
set_option maxRecDepth 100000 in
theorem wX10_wrongOf_4 {p : Program} {l : Launch} {e : Env} {s : State} {m : MethodId} {args : Array Value} {below : List Frame} {meth : Method} {c : Code} {D : va_G} {cy : Nat → ClassId} (ad : Nat → Nat) (A : Nat → Prop) {S : MS} {r : Int32} {out : ((Nat × Int32 × Int32 × Int32) ⊕ Int32)} {ls : Array Slot} {x0 : Nat} {x1 : Int32} {x2 : Int32} {x3 : Int32} (C0 : CX p s m args meth c RX10 cX10_wrongOf 4 D cy) (M : MW D cy ad A S s.heap) (hr : meth.sig.returnType = some .int) (hF : bX10_wrongOf_4 S x0 x1 x2 x3 = some out) (hl : lv_has ls 4 [(0, .ref (ad x0)), (1, .int x1), (2, .int x2), (3, .int x3)]) (Kr : ∀ r9, out = .inr r9 → r9 = r) (Kh0 : ∀ (y0 : Nat) (y1 : Int32) (y2 : Int32) (y3 : Int32), out = .inl (y0, y1, y2, y3) → ∀ (ls1 : Array Slot), lv_has ls1 4 [(0, .ref (ad y0)), (1, .int y1), (2, .int y2), (3, .int y3)] → W p l e rmX10_wrongOf s m args below meth c s.heap [] 0 0 (MQ below (QcS (some (.int r))) args s 0 0 (fun _ => False)) (F0 m 4 ls1 [])) : W p l e rmX10_wrongOf s m args below meth c s.heap [] 0 0 (MQ below (QcS (some (.int r))) args s 0 0 (fun _ => False)) (F0 m 4 ls []) := by
  unfold bX10_wrongOf_4 at hF
  obtain ⟨hx, hb, -, hown, -, hts, -⟩ := id C0
  refine lv_iload_n hx hb dX10_wrongOf_4 rfl (lv_at hl 3 rfl) ?_
  refine lv_aload_n hx hb dX10_wrongOf_5 rfl (lv_at hl 0 rfl) ?_
  obtain ⟨v6, hv, hF⟩ := ob hF
  refine k_getI C0 M hv fl_X10_153 dX10_wrongOf_6 ?_
  refine lv_icmp_ge (tgt := 64) hx hb dX10_wrongOf_9 (by decide) (fun hc => ?_) (fun hc => ?_)
  · have hF := oi_t hc hF
    refine lv_iload_n hx hb dX10_wrongOf_64 rfl (lv_at hl 2 rfl) ?_
    obtain rfl := (Kr _ (Option.some.inj hF).symm)
    exact rt_SI C0 hr dX10_wrongOf_65
  · have hF := oi_f hc hF
    refine lv_iload_n hx hb dX10_wrongOf_12 rfl (lv_at hl 2 rfl) ?_
    refine lv_aload_n hx hb dX10_wrongOf_13 rfl (lv_at hl 0 rfl) ?_
    obtain ⟨v14, hv, hF⟩ := ob hF
    refine k_getP C0 M hv fl_X10_46 dX10_wrongOf_14 ?_
    refine lv_iload_n hx hb dX10_wrongOf_17 rfl (lv_at hl 3 rfl) ?_
    obtain ⟨v18, hv, hF⟩ := ob hF
    refine k_ld C0 M hv dX10_wrongOf_18 ?_
    refine lv_if_lt (tgt := 55) hx hb dX10_wrongOf_19 (by decide) (fun hc => ?_) (fun hc => ?_)
    · have hF := oi_t hc hF
      exact wX10_wrongOf_55 ad A C0 M hr hF (lv_sub hl [0, 1, 3] rfl) Kr Kh0
    · have hF := oi_f hc hF
      refine lv_aload_n hx hb dX10_wrongOf_22 rfl (lv_at hl 0 rfl) ?_
      obtain ⟨v23, hv, hF⟩ := ob hF
      refine k_getP C0 M hv fl_X10_52 dX10_wrongOf_23 ?_
      refine lv_iload_n hx hb dX10_wrongOf_26 rfl (lv_at hl 3 rfl) ?_
      obtain ⟨v27, hv, hF⟩ := ob hF
      refine k_ld C0 M hv dX10_wrongOf_27 ?_
      refine lv_iload_n hx hb dX10_wrongOf_28 rfl (lv_at hl 1 rfl) ?_
      refine lv_icmp_ge (tgt := 36) hx hb dX10_wrongOf_29 (by decide) (fun hc => ?_) (fun hc => ?_)
      · have hF := oi_t hc hF
        refine lv_iconst (v := (0 : Int32)) hx hb dX10_wrongOf_36 (by decide) ?_
        exact wX10_wrongOf_37 ad A C0 M hr hF (lv_sub hl [0, 1, 3] rfl) Kr Kh0
      · have hF := oi_f hc hF
        refine lv_iconst (v := (1 : Int32)) hx hb dX10_wrongOf_32 (by decide) ?_
        refine lv_goto (tgt := 37) hx hb dX10_wrongOf_33 (by decide) ?_
        exact wX10_wrongOf_37 ad A C0 M hr hF (lv_sub hl [0, 1, 3] rfl) Kr Kh0
set_option maxHeartbeats 4000000 in
set_option maxRecDepth 100000 in
theorem tX10_wrongOf (l : Launch) (D : va_G) (cy : Nat → ClassId) (ad : Nat → Nat) (A : Nat → Prop) {S : MS} {a0 : Nat} {a1 : Int32} {r : Int32} (h : fX10_wrongOf S a0 a1 = some r) : Met l yX10_wrongOf [Cond.code yX10_wrongOf cX10_wrongOf 4 (some .int)] rmX10_wrongOf (PcR D cy ad A S [.ref (ad a0), .int a1]) (QcS (some (.int r))) 0 0 (fun _ => False) := by
  refine met_R (by decide +kernel) cw_X10_wrongOf (Nat.le_of_ble_eq_true rfl) ?_
  intro p e s m args below meth c ls C0 M hr hl
  have hl : lv_has ls 4 [(0, .ref (ad a0)), (1, .int a1)] := hl
  have key := lim_walk (step := sX10_wrongOf S) (fun (q : (Nat × Int32 × Int32 × Int32)) (r9 : Int32) => ∀ (r : Int32), r9 = r → ((∀ (y0 : Nat) (y1 : Int32) (y2 : Int32) (y3 : Int32), q = (y0, y1, y2, y3) → ∀ (ls1 : Array Slot), lv_has ls1 4 [(0, .ref (ad y0)), (1, .int y1), (2, .int y2), (3, .int y3)] → W p l e rmX10_wrongOf s m args below meth c s.heap [] 0 0 (MQ below (QcS (some (.int r))) args s 0 0 (fun _ => False)) (F0 m 4 ls1 [])))) ?_
  · unfold fX10_wrongOf at h
    cases hs0 : bX10_wrongOf_0 S a0 a1 with
    | none => rw [hs0] at h; cases h
    | some out =>
      rw [hs0] at h
      refine wX10_wrongOf_0 ad A C0 M hr hs0 hl (fun r9 hr9 => ?_) ?_
      · subst hr9; exact Option.some.inj h
      · intro y0 y1 y2 y3 hq; subst hq; exact (key _ _ h _ rfl) _ _ _ _ rfl
  · intro q r9 out hst hre hin9
    intro r er; subst er
    refine ?_
    · intro y0 y1 y2 y3 hq ls1 hl
      subst hq
      exact wX10_wrongOf_4 ad A C0 M hr hst hl hre (fun k0 k1 k2 k3 hk => (hin9 _ hk _ rfl) _ _ _ _ rfl)
