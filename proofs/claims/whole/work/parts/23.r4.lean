theorem cb_X10_306 : CBV RX10 306 yX10_lengthOf cX10_lengthOf 4 (some .int) 1 11 := ⟨⟨cw_X10_lengthOf, ini_ChartRoomModel, by decide, (uw_of 1435 (by decide +kernel) rfl)⟩, (uw_of 1437 (by decide +kernel) rfl), (uw_of 57 (by decide +kernel) rfl), by decide, TX10, 58, rfl⟩
theorem cb_X10_309 : CBV RX10 309 yX10_piecesOf cX10_piecesOf 5 (some .int) 2 11 := ⟨⟨cw_X10_piecesOf, ini_ChartRoomModel, by decide, (uw_of 1443 (by decide +kernel) rfl)⟩, (uw_of 1445 (by decide +kernel) rfl), (uw_of 59 (by decide +kernel) rfl), by decide, TX10, 58, rfl⟩
theorem cb_X10_312 : CBV RX10 312 yX10_wrongOf cX10_wrongOf 4 (some .int) 1 11 := ⟨⟨cw_X10_wrongOf, ini_ChartRoomModel, by decide, (uw_of 1455 (by decide +kernel) rfl)⟩, (uw_of 1457 (by decide +kernel) rfl), (uw_of 62 (by decide +kernel) rfl), by decide, TX10, 58, rfl⟩
theorem cw_X10_line : Cond.code yX10_line cX10_line 5 (some .int) ∈ UW := (uw_of 1433 (by decide +kernel) rfl)
theorem cw_X10_lose : Cond.code yX10_lose cX10_lose 3 (some .int) ∈ UW := (uw_of 1596 (by decide +kernel) rfl)
theorem cw_X10_many : Cond.code yX10_many cX10_many 4 (some .int) ∈ UW := (uw_of 1644 (by decide +kernel) rfl)
theorem cw_X10_mended : Cond.code yX10_mended cX10_mended 3 (some .int) ∈ UW := (uw_of 1408 (by decide +kernel) rfl)
theorem cw_X10_night : Cond.code yX10_night cX10_night 3 (some .int) ∈ UW := (uw_of 1531 (by decide +kernel) rfl)
theorem cw_X10_place : Cond.code yX10_place cX10_place 3 (some .int) ∈ UW := (uw_of 1264 (by decide +kernel) rfl)
theorem cw_X10_post : Cond.code yX10_post cX10_post 7 (some .int) ∈ UW := (uw_of 1249 (by decide +kernel) rfl)
theorem cw_X10_prognosis : Cond.code yX10_prognosis cX10_prognosis 5 (some .int) ∈ UW := (uw_of 1535 (by decide +kernel) rfl)
theorem cw_X10_put : Cond.code yX10_put cX10_put 4 (some .int) ∈ UW := (uw_of 1600 (by decide +kernel) rfl)
theorem cw_X10_quarrel : Cond.code yX10_quarrel cX10_quarrel 3 (some .int) ∈ UW := (uw_of 1421 (by decide +kernel) rfl)
theorem cw_X10_readingAt : Cond.code yX10_readingAt cX10_readingAt 7 (some .int) ∈ UW := (uw_of 1305 (by decide +kernel) rfl)
theorem cb_X10_231 : CBV RX10 231 yX10_readingAt cX10_readingAt 7 (some .int) 3 11 := ⟨⟨cw_X10_readingAt, ini_ChartRoomModel, by decide, (uw_of 1302 (by decide +kernel) rfl)⟩, (uw_of 1304 (by decide +kernel) rfl), (uw_of 43 (by decide +kernel) rfl), by decide, TX10, 58, rfl⟩
theorem cw_X10_reading : Cond.code yX10_reading cX10_reading 4 (some .int) ∈ UW := (uw_of 1388 (by decide +kernel) rfl)
theorem cw_X10_readings : Cond.code yX10_readings cX10_readings 3 (some .int) ∈ UW := (uw_of 1384 (by decide +kernel) rfl)
theorem cw_X10_sheet : Cond.code yX10_sheet cX10_sheet 5 (some .int) ∈ UW := (uw_of 1592 (by decide +kernel) rfl)
theorem cw_X10_steep : Cond.code yX10_steep cX10_steep 3 (some .int) ∈ UW := (uw_of 1416 (by decide +kernel) rfl)
theorem cw_X10_tell : Cond.code yX10_tell cX10_tell 3 (some .int) ∈ UW := (uw_of 1620 (by decide +kernel) rfl)
theorem cw_X10_told : Cond.code yX10_told cX10_told 3 (some .int) ∈ UW := (uw_of 1317 (by decide +kernel) rfl)
theorem cw_X10_trace : Cond.code yX10_trace cX10_trace 1 (some .int) ∈ UW := (uw_of 1636 (by decide +kernel) rfl)
theorem cw_X10_value : Cond.code yX10_value cX10_value 3 (some .int) ∈ UW := (uw_of 1429 (by decide +kernel) rfl)
theorem cb_X10_408 : CBV RX10 408 yX10_isTrue cX10_isTrue 6 (some .boolean) 1 11 := ⟨⟨cw_X10_isTrue, ini_ChartRoomModel, by decide, (uw_of 1581 (by decide +kernel) rfl)⟩, (uw_of 1583 (by decide +kernel) rfl), (uw_of 79 (by decide +kernel) rfl), by decide, TX10, 58, rfl⟩
theorem cw_X10_verified : Cond.code yX10_verified cX10_verified 5 (some .int) ∈ UW := (uw_of 1580 (by decide +kernel) rfl)
theorem cw_X10_view : Cond.code yX10_view cX10_view 3 (some .int) ∈ UW := (uw_of 1396 (by decide +kernel) rfl)
theorem cw_X10_wire : Cond.code yX10_wire cX10_wire 8 (some .int) ∈ UW := (uw_of 1283 (by decide +kernel) rfl)
theorem cw_X10_yOf : Cond.code yX10_yOf cX10_yOf 4 (some .int) ∈ UW := (uw_of 1523 (by decide +kernel) rfl)
abbrev rmX10_line : Room := { frames := 5, cells := 0, slots := 0, locals := 121 }
abbrev rmX10_lose : Room := { frames := 2, cells := 0, slots := 0, locals := 45 }
abbrev rmX10_many : Room := { frames := 5, cells := 0, slots := 0, locals := 121 }
abbrev rmX10_mended : Room := { frames := 6, cells := 0, slots := 0, locals := 143 }
abbrev rmX10_night : Room := { frames := 0, cells := 0, slots := 0, locals := 0 }
abbrev rmX10_place : Room := { frames := 3, cells := 0, slots := 0, locals := 70 }
abbrev rmX10_post : Room := { frames := 2, cells := 0, slots := 0, locals := 46 }
abbrev rmX10_prognosis : Room := { frames := 5, cells := 0, slots := 0, locals := 121 }
abbrev rmX10_put : Room := { frames := 2, cells := 0, slots := 0, locals := 47 }
abbrev rmX10_quarrel : Room := { frames := 5, cells := 0, slots := 0, locals := 121 }
abbrev rmX10_readingAt : Room := { frames := 2, cells := 0, slots := 0, locals := 54 }
abbrev rmX10_reading : Room := { frames := 3, cells := 0, slots := 0, locals := 80 }
abbrev rmX10_readings : Room := { frames := 3, cells := 0, slots := 0, locals := 80 }
abbrev rmX10_sheet : Room := { frames := 2, cells := 0, slots := 0, locals := 45 }
abbrev rmX10_steep : Room := { frames := 1, cells := 0, slots := 0, locals := 25 }
abbrev rmX10_tell : Room := { frames := 2, cells := 0, slots := 0, locals := 46 }
abbrev rmX10_told : Room := { frames := 5, cells := 0, slots := 0, locals := 121 }
abbrev rmX10_trace : Room := { frames := 0, cells := 0, slots := 0, locals := 0 }
abbrev rmX10_value : Room := { frames := 5, cells := 0, slots := 0, locals := 121 }
abbrev rmX10_verified : Room := { frames := 5, cells := 0, slots := 0, locals := 121 }
abbrev rmX10_view : Room := { frames := 5, cells := 0, slots := 0, locals := 121 }
abbrev rmX10_wire : Room := { frames := 3, cells := 0, slots := 0, locals := 80 }
abbrev rmX10_yOf : Room := { frames := 2, cells := 0, slots := 0, locals := 47 }
noncomputable def bX10_line_24 (S : MS) : Option ((Nat × Int32 × Int32 × Int32 × MS) ⊕ (Int32 × MS)) :=
  some (.inr ((-2 : Int32), S))
noncomputable def bX10_line_0 (S : MS) (x0 : Nat) (x1 : Int32) (x2 : Int32) : Option ((Nat × Int32 × Int32 × Int32 × MS) ⊕ (Int32 × MS)) :=
  (fX10_in (x1.toInt64) (0 : Int64) (20000 : Int64)).bind fun v6 =>
  if v6 = 0 then
    bX10_line_24 S
  else
    (fX10_in (x2.toInt64) (0 : Int64) (4 : Int64)).bind fun v18 =>
    if v18 = 0 then
      bX10_line_24 S
    else
      (o_is S x0 11).bind fun _ =>
      (fX10_layChart S x0).bind fun S28 =>
      (o_gP S28 x0 11 24).bind fun v32 =>
      (o_ld S28 v32 12 (0 : Int32)).bind fun v36 =>
      if v36 = (-9 : Int32) then
        some (.inr ((-3 : Int32), S28))
      else
        if x2 = (0 : Int32) then
          (o_is S28 x0 11).bind fun _ =>
          (fX10_lengthOf S28 x0 x1).bind fun v82 =>
          some (.inr (v82, S28))
        else
        if x2 = (1 : Int32) then
          (o_is S28 x0 11).bind fun _ =>
          b2 (fX10_piecesOf S28 x0 x1 (1 : Int32)) fun v89 S89 =>
          some (.inr (v89, S89))
        else
        if x2 = (2 : Int32) then
          (o_is S28 x0 11).bind fun _ =>
          b2 (fX10_piecesOf S28 x0 x1 (0 : Int32)) fun v96 S96 =>
          some (.inr (v96, S96))
        else
        if x2 = (3 : Int32) then
          some (.inl (x0, x1, (0 : Int32), (0 : Int32), S28))
        else
        (o_is S28 x0 11).bind fun _ =>
        (fX10_wrongOf S28 x0 x1).bind fun v139 =>
        some (.inr (v139, S28))
noncomputable def bX10_line_127 (S : MS) (x0 : Nat) (x1 : Int32) (x4 : Int32) (z0 : Int32) (z1 : Int32) : Option ((Nat × Int32 × Int32 × Int32 × MS) ⊕ (Int32 × MS)) :=
  (some ((z0 + z1))).bind fun v128 =>
  (some (x4 + 1)).bind fun v129 =>
  some (.inl (x0, x1, v128, v129, S))
noncomputable def bX10_line_103 (S : MS) (x0 : Nat) (x1 : Int32) (x3 : Int32) (x4 : Int32) : Option ((Nat × Int32 × Int32 × Int32 × MS) ⊕ (Int32 × MS)) :=
  if (144 : Int32) ≤ x4 then
    some (.inr (x3, S))
  else
    (o_is S x0 11).bind fun _ =>
    (fX10_isBelow S x0 x4 x1).bind fun v116 =>
    if v116 = 0 then
      bX10_line_127 S x0 x1 x4 x3 (0 : Int32)
    else
      bX10_line_127 S x0 x1 x4 x3 (1 : Int32)
noncomputable def sX10_line : (Nat × Int32 × Int32 × Int32 × MS) → Option ((Nat × Int32 × Int32 × Int32 × MS) ⊕ (Int32 × MS)) := (fun t => bX10_line_103 t.2.2.2.2 t.1 t.2.1 t.2.2.1 t.2.2.2.1)
noncomputable def hX10_line_103 (S : MS) (x0 : Nat) (x1 : Int32) (x3 : Int32) (x4 : Int32) : Option (Int32 × MS) := lim (sX10_line) (x0, x1, x3, x4, S)
theorem qX10_line_103 (S : MS) (x0 : Nat) (x1 : Int32) (x3 : Int32) (x4 : Int32) : hX10_line_103 S x0 x1 x3 x4 = fin (sX10_line) (bX10_line_103 S x0 x1 x3 x4) := lim_eq _ _
noncomputable def fX10_line (S : MS) (a0 : Nat) (a1 : Int32) (a2 : Int32) : Option (Int32 × MS) := fin (sX10_line) (bX10_line_0 S a0 a1 a2)
noncomputable def bX10_lose_23 (S : MS) (x0 : Nat) (x1 : Int32) (z0 : Int32) : Option (Int32 × MS) :=
  (o_gP S x0 11 53).bind fun v25 =>
  (o_st S v25 12 x1 (-1 : Int32)).bind fun S30 =>
  some (z0, S30)
noncomputable def bX10_lose_0 (S : MS) (x0 : Nat) (x1 : Int32) : Option (Int32 × MS) :=
  (fX10_noSheet x1).bind fun v1 =>
  if v1 = 0 then
    (o_gP S x0 11 53).bind fun v10 =>
    (o_ld S v10 12 x1).bind fun v14 =>
    if 0 ≤ v14 then
      bX10_lose_23 S x0 x1 (1 : Int32)
    else
      bX10_lose_23 S x0 x1 (0 : Int32)
  else
    some ((-1 : Int32), S)
noncomputable def fX10_lose (S : MS) (a0 : Nat) (a1 : Int32) : Option (Int32 × MS) := bX10_lose_0 S a0 a1
noncomputable def bX10_many_0 (S : MS) (x0 : Nat) (x1 : Int32) : Option ((Nat × Int32 × Int32 × MS) ⊕ (Int32 × MS)) :=
  (o_is S x0 11).bind fun _ =>
  (fX10_layChart S x0).bind fun S1 =>
  if x1 = (0 : Int32) then
    (o_gI S1 x0 11 1).bind fun v57 =>
    some (.inr (v57, S1))
  else
  if x1 = (1 : Int32) then
    (o_gI S1 x0 11 8).bind fun v62 =>
    some (.inr (v62, S1))
  else
  if x1 = (2 : Int32) then
    (o_gI S1 x0 11 19).bind fun v67 =>
    some (.inr (v67, S1))
  else
  if x1 = (3 : Int32) then
    (o_gP S1 x0 11 28).bind fun v72 =>
    (o_ld S1 v72 12 (0 : Int32)).bind fun v76 =>
    some (.inr (v76, S1))
  else
  if x1 = (4 : Int32) then
    (o_gP S1 x0 11 28).bind fun v79 =>
    (o_ld S1 v79 12 (1 : Int32)).bind fun v83 =>
    some (.inr (v83, S1))
  else
  if x1 = (5 : Int32) then
    (o_gI S1 x0 11 44).bind fun v86 =>
    some (.inr (v86, S1))
  else
  if x1 = (6 : Int32) then
    (o_gI S1 x0 11 15).bind fun v91 =>
    some (.inr (v91, S1))
  else
  if x1 = (7 : Int32) then
    (o_gI S1 x0 11 16).bind fun v96 =>
    some (.inr (v96, S1))
  else
  if x1 = (8 : Int32) then
    some (.inl (x0, (0 : Int32), (0 : Int32), S1))
  else
  some (.inr ((-2 : Int32), S1))
noncomputable def bX10_many_122 (S : MS) (x0 : Nat) (x3 : Int32) (z0 : Int32) (z1 : Int32) : Option ((Nat × Int32 × Int32 × MS) ⊕ (Int32 × MS)) :=
  (some ((z0 + z1))).bind fun v123 =>
  (some (x3 + 1)).bind fun v124 =>
  some (.inl (x0, v123, v124, S))
noncomputable def bX10_many_102 (S : MS) (x0 : Nat) (x2 : Int32) (x3 : Int32) : Option ((Nat × Int32 × Int32 × MS) ⊕ (Int32 × MS)) :=
  if (4 : Int32) ≤ x3 then
    some (.inr (x2, S))
  else
    (o_gP S x0 11 39).bind fun v109 =>
    (o_ld S v109 13 x3).bind fun v113 =>
    if v113 = 0 then
      bX10_many_122 S x0 x3 x2 (0 : Int32)
    else
      bX10_many_122 S x0 x3 x2 (1 : Int32)
noncomputable def sX10_many : (Nat × Int32 × Int32 × MS) → Option ((Nat × Int32 × Int32 × MS) ⊕ (Int32 × MS)) := (fun t => bX10_many_102 t.2.2.2 t.1 t.2.1 t.2.2.1)
noncomputable def hX10_many_102 (S : MS) (x0 : Nat) (x2 : Int32) (x3 : Int32) : Option (Int32 × MS) := lim (sX10_many) (x0, x2, x3, S)
theorem qX10_many_102 (S : MS) (x0 : Nat) (x2 : Int32) (x3 : Int32) : hX10_many_102 S x0 x2 x3 = fin (sX10_many) (bX10_many_102 S x0 x2 x3) := lim_eq _ _
noncomputable def fX10_many (S : MS) (a0 : Nat) (a1 : Int32) : Option (Int32 × MS) := fin (sX10_many) (bX10_many_0 S a0 a1)
noncomputable def bX10_mended_20 (S : MS) (z0 : Int32) : Option (Int32 × MS) :=
  some (z0, S)
noncomputable def bX10_mended_0 (S : MS) (x0 : Nat) (x1 : Int32) : Option (Int32 × MS) :=
  (o_is S x0 11).bind fun _ =>
  b2 (fX10_noAsking S x0 x1 (1 : Int32)) fun v3 S3 =>
  if 0 ≤ v3 then
    (o_is S3 x0 11).bind fun _ =>
    (fX10_mendedOf S3 x0 x1).bind fun v17 =>
    bX10_mended_20 S3 v17
  else
    bX10_mended_20 S3 v3
noncomputable def fX10_mended (S : MS) (a0 : Nat) (a1 : Int32) : Option (Int32 × MS) := bX10_mended_0 S a0 a1
noncomputable def bX10_night_0 (S : MS) (x0 : Nat) : Option (((Nat × Int32 × MS) ⊕ (Nat × Int32 × Int32 × MS)) ⊕ (Int32 × MS)) :=
  some (.inl (.inl (x0, (0 : Int32), S)))
noncomputable def bX10_night_2 (S : MS) (x0 : Nat) (x1 : Int32) : Option (((Nat × Int32 × MS) ⊕ (Nat × Int32 × Int32 × MS)) ⊕ (Int32 × MS)) :=
  (o_gP S x0 11 28).bind fun v4 =>
  (o_ld S v4 12 (1 : Int32)).bind fun v8 =>
  if v8 ≤ x1 then
    (o_gP S x0 11 28).bind fun v113 =>
    (o_gP S x0 11 28).bind fun v118 =>
    (o_ld S v118 12 (1 : Int32)).bind fun v122 =>
    (o_st S v113 12 (0 : Int32) v122).bind fun S123 =>
    (o_gP S123 x0 11 28).bind fun v125 =>
    (o_st S123 v125 12 (1 : Int32) (0 : Int32)).bind fun S130 =>
    (o_gP S130 x0 11 28).bind fun v132 =>
    (o_ld S130 v132 12 (0 : Int32)).bind fun v136 =>
    some (.inr (v136, S130))
  else
    (o_gP S x0 11 29).bind fun v13 =>
    (o_gP S x0 11 29).bind fun v18 =>
    (o_ld S v18 12 ((5 : Int32) + x1)).bind fun v24 =>
    (o_st S v13 12 x1 v24).bind fun S25 =>
    (o_gP S25 x0 11 30).bind fun v27 =>
    (o_gP S25 x0 11 30).bind fun v32 =>
    (o_ld S25 v32 12 ((5 : Int32) + x1)).bind fun v38 =>
    (o_st S25 v27 12 x1 v38).bind fun S39 =>
    (o_gP S39 x0 11 31).bind fun v41 =>
    (o_gP S39 x0 11 31).bind fun v46 =>
    (o_ld S39 v46 12 ((5 : Int32) + x1)).bind fun v52 =>
    (o_st S39 v41 12 x1 v52).bind fun S53 =>
    (o_gP S53 x0 11 32).bind fun v55 =>
    (o_gP S53 x0 11 32).bind fun v60 =>
    (o_ld S53 v60 12 ((5 : Int32) + x1)).bind fun v66 =>
    (o_st S53 v55 12 x1 v66).bind fun S67 =>
    some (.inl (.inr (x0, x1, (0 : Int32), S67)))
noncomputable def bX10_night_70 (S : MS) (x0 : Nat) (x1 : Int32) (x2 : Int32) : Option (((Nat × Int32 × MS) ⊕ (Nat × Int32 × Int32 × MS)) ⊕ (Int32 × MS)) :=
  if (12 : Int32) ≤ x2 then
    (some (x1 + 1)).bind fun v106 =>
    some (.inl (.inl (x0, v106, S)))
  else
    (o_gP S x0 11 33).bind fun v77 =>
    (o_gP S x0 11 33).bind fun v87 =>
    (o_ld S v87 12 (((12 : Int32) * ((5 : Int32) + x1)) + x2)).bind fun v98 =>
    (o_st S v77 12 (((12 : Int32) * x1) + x2) v98).bind fun S99 =>
    (some (x2 + 1)).bind fun v100 =>
    some (.inl (.inr (x0, x1, v100, S99)))
noncomputable def sX10_night : ((Nat × Int32 × MS) ⊕ (Nat × Int32 × Int32 × MS)) → Option (((Nat × Int32 × MS) ⊕ (Nat × Int32 × Int32 × MS)) ⊕ (Int32 × MS)) := (Sum.elim (fun t => bX10_night_2 t.2.2 t.1 t.2.1) (fun t => bX10_night_70 t.2.2.2 t.1 t.2.1 t.2.2.1))
noncomputable def hX10_night_2 (S : MS) (x0 : Nat) (x1 : Int32) : Option (Int32 × MS) := lim (sX10_night) (.inl (x0, x1, S))
theorem qX10_night_2 (S : MS) (x0 : Nat) (x1 : Int32) : hX10_night_2 S x0 x1 = fin (sX10_night) (bX10_night_2 S x0 x1) := lim_eq _ _
noncomputable def hX10_night_70 (S : MS) (x0 : Nat) (x1 : Int32) (x2 : Int32) : Option (Int32 × MS) := lim (sX10_night) (.inr (x0, x1, x2, S))
theorem qX10_night_70 (S : MS) (x0 : Nat) (x1 : Int32) (x2 : Int32) : hX10_night_70 S x0 x1 x2 = fin (sX10_night) (bX10_night_70 S x0 x1 x2) := lim_eq _ _
noncomputable def fX10_night (S : MS) (a0 : Nat) : Option (Int32 × MS) := fin (sX10_night) (bX10_night_0 S a0)
noncomputable def bX10_place_33 (S : MS) (z0 : Int32) : Option Int32 :=
  some z0
noncomputable def bX10_place_0 (S : MS) (x0 : Nat) (x1 : Int32) (x2 : Int32) : Option Int32 :=
  (o_is S x0 11).bind fun _ =>
  (fX10_noPost S x0 x1).bind fun v2 =>
  if v2 = 0 then
    (fX10_in (x2.toInt64) (0 : Int64) (99 : Int64)).bind fun v16 =>
    if v16 = 0 then
      bX10_place_33 S (-2 : Int32)
    else
      (o_is S x0 11).bind fun _ =>
      (fX10_placeOf S x0 x1 x2).bind fun v25 =>
      bX10_place_33 S v25
  else
    some (-1 : Int32)
noncomputable def fX10_place (S : MS) (a0 : Nat) (a1 : Int32) (a2 : Int32) : Option Int32 := bX10_place_0 S a0 a1 a2
noncomputable def bX10_post_63 (S : MS) : Option (Int32 × MS) :=
  some ((-2 : Int32), S)
noncomputable def bX10_post_0 (S : MS) (x0 : Nat) (x1 : Int32) (x2 : Int32) (x3 : Int32) (x4 : Int32) (x5 : Int32) (x6 : Int32) : Option (Int32 × MS) :=
  (fX10_in (x1.toInt64) (0 : Int64) (2 : Int64)).bind fun v6 =>
  if v6 = 0 then
    bX10_post_63 S
  else
    (fX10_isPlace x2 x3).bind fun v14 =>
    if v14 = 0 then
      bX10_post_63 S
    else
      (fX10_in (x4.toInt64) (0 : Int64) (3000 : Int64)).bind fun v27 =>
      if v27 = 0 then
        bX10_post_63 S
      else
        (fX10_in (x5.toInt64) (-20 : Int64) (20 : Int64)).bind fun v42 =>
        if v42 = 0 then
          bX10_post_63 S
        else
          (fX10_in (x6.toInt64) (-20 : Int64) (20 : Int64)).bind fun v57 =>
          if v57 = 0 then
            bX10_post_63 S
          else
            (o_gI S x0 11 1).bind fun v67 =>
            if v67 = (12 : Int32) then
              some ((-4 : Int32), S)
            else
              (o_gP S x0 11 2).bind fun v79 =>
              (o_gI S x0 11 1).bind fun v83 =>
              (o_st S v79 12 v83 x1).bind fun S87 =>
              (o_gP S87 x0 11 3).bind fun v89 =>
              (o_gI S87 x0 11 1).bind fun v93 =>
              (o_st S87 v89 12 v93 x2).bind fun S97 =>
              (o_gP S97 x0 11 4).bind fun v99 =>
              (o_gI S97 x0 11 1).bind fun v103 =>
              (o_st S97 v99 12 v103 x3).bind fun S107 =>
              (o_gP S107 x0 11 5).bind fun v109 =>
              (o_gI S107 x0 11 1).bind fun v113 =>
              (o_st S107 v109 12 v113 x4).bind fun S118 =>
              (o_gP S118 x0 11 6).bind fun v120 =>
              (o_gI S118 x0 11 1).bind fun v124 =>
              (o_st S118 v120 12 v124 x5).bind fun S129 =>
              (o_gP S129 x0 11 7).bind fun v131 =>
              (o_gI S129 x0 11 1).bind fun v135 =>
              (o_st S129 v131 12 v135 x6).bind fun S140 =>
              (o_gI S140 x0 11 1).bind fun v143 =>
              (o_sI S140 x0 11 1 (v143 + (1 : Int32))).bind fun S148 =>
              (o_sI S148 x0 11 18 (0 : Int32)).bind fun S153 =>
              (o_gI S153 x0 11 1).bind fun v157 =>
              some ((v157 - (1 : Int32)), S153)
noncomputable def fX10_post (S : MS) (a0 : Nat) (a1 : Int32) (a2 : Int32) (a3 : Int32) (a4 : Int32) (a5 : Int32) (a6 : Int32) : Option (Int32 × MS) := bX10_post_0 S a0 a1 a2 a3 a4 a5 a6
noncomputable def bX10_prognosis_0 (S : MS) (x0 : Nat) (x1 : Int32) (x2 : Int32) (x3 : Int32) (x4 : Int32) : Option (Int32 × MS) :=
  (fX10_isShift x1 x2).bind fun v2 =>
  if v2 = 0 then
    some ((-2 : Int32), S)
  else
    (fX10_isPlace x3 x4).bind fun v14 =>
    if v14 = 0 then
      some ((-1 : Int32), S)
    else
      (o_is S x0 11).bind fun _ =>
      (fX10_layChart S x0).bind fun S23 =>
      (o_is S23 x0 11).bind fun _ =>
      (fX10_valueMoved S23 x0 x1 x2 x3 x4).bind fun v32 =>
      some (v32, S23)
noncomputable def fX10_prognosis (S : MS) (a0 : Nat) (a1 : Int32) (a2 : Int32) (a3 : Int32) (a4 : Int32) : Option (Int32 × MS) := bX10_prognosis_0 S a0 a1 a2 a3 a4
noncomputable def bX10_put_73 (S : MS) (x0 : Nat) (z0 : Nat) (z1 : Int32) (z2 : Int32) : Option (Int32 × MS) :=
  (o_st S z0 12 z1 z2).bind fun S73 =>
  (o_is S73 x0 11).bind fun _ =>
  b2 (fX10_refused S73 x0 (1 : Int32)) fun v76 S76 =>
  some (v76, S76)
noncomputable def bX10_put_0 (S : MS) (x0 : Nat) (x1 : Int32) (x2 : Int32) (x3 : Int32) : Option (Int32 × MS) :=
  (fX10_noSheet x1).bind fun v1 =>
  if v1 = 0 then
    (o_is S x0 11).bind fun _ =>
    (fX10_noCell S x0 x1 x2).bind fun v16 =>
    if v16 ≤ 0 then
      (o_gP S x0 11 55).bind fun v34 =>
      (o_gP S x0 11 54).bind fun v44 =>
      (o_ld S v44 12 x1).bind fun v48 =>
      if v48 = 0 then
        bX10_put_73 S x0 v34 (((60 : Int32) * x1) + x2) (x3.toInt8.toInt32)
      else
        (o_gP S x0 11 54).bind fun v58 =>
        (o_ld S v58 12 x1).bind fun v62 =>
        if v62 = (1 : Int32) then
          bX10_put_73 S x0 v34 (((60 : Int32) * x1) + x2) (x3.toInt16.toInt32)
        else
          bX10_put_73 S x0 v34 (((60 : Int32) * x1) + x2) x3
    else
      (o_is S x0 11).bind fun _ =>
      (fX10_noCell S x0 x1 x2).bind fun v26 =>
      (o_is S x0 11).bind fun _ =>
      b2 (fX10_failed S x0 v26) fun v29 S29 =>
      some (v29, S29)
  else
    (o_is S x0 11).bind fun _ =>
    b2 (fX10_refused S x0 (-1 : Int32)) fun v9 S9 =>
    some (v9, S9)
noncomputable def fX10_put (S : MS) (a0 : Nat) (a1 : Int32) (a2 : Int32) (a3 : Int32) : Option (Int32 × MS) := bX10_put_0 S a0 a1 a2 a3
noncomputable def bX10_quarrel_16 (S : MS) : Option (Int32 × MS) :=
  some ((-1 : Int32), S)
noncomputable def bX10_quarrel_45 (S : MS) : Option (Int32 × MS) :=
  some ((-3 : Int32), S)
noncomputable def bX10_quarrel_62 (S : MS) (z0 : Int32) : Option (Int32 × MS) :=
  some (z0, S)
noncomputable def bX10_quarrel_0 (S : MS) (x0 : Nat) (x1 : Int32) (x2 : Int32) : Option (Int32 × MS) :=
  (o_is S x0 11).bind fun _ =>
  (fX10_noPost S x0 x1).bind fun v2 =>
  if v2 = 0 then
    (o_is S x0 11).bind fun _ =>
    (fX10_noPost S x0 x2).bind fun v10 =>
    if v10 = 0 then
      (o_is S x0 11).bind fun _ =>
      (fX10_layChart S x0).bind fun S19 =>
      if x1 = x2 then
        bX10_quarrel_45 S19
      else
        (o_gP S19 x0 11 20).bind fun v28 =>
        (o_ld S19 v28 12 x1).bind fun v32 =>
        if v32 < 0 then
          bX10_quarrel_45 S19
        else
          (o_gP S19 x0 11 20).bind fun v37 =>
          (o_ld S19 v37 12 x2).bind fun v41 =>
          if 0 ≤ v41 then
            (o_is S19 x0 11).bind fun _ =>
            (fX10_doQuarrel S19 x0 x1 x2).bind fun v51 =>
            if v51 = 0 then
              bX10_quarrel_62 S19 (0 : Int32)
            else
              bX10_quarrel_62 S19 (1 : Int32)
          else
            bX10_quarrel_45 S19
    else
      bX10_quarrel_16 S
  else
    bX10_quarrel_16 S
noncomputable def fX10_quarrel (S : MS) (a0 : Nat) (a1 : Int32) (a2 : Int32) : Option (Int32 × MS) := bX10_quarrel_0 S a0 a1 a2
noncomputable def bX10_readingAt_0 (S : MS) (x0 : Nat) (x1 : Int32) (x2 : Int32) (x3 : Int32) : Option ((Nat × Int32 × Int32 × Int32 × Int32 × Int32) ⊕ Int32) :=
  some (.inl (x0, x1, x2, x3, (0 : Int32), (0 : Int32)))
noncomputable def bX10_readingAt_41 (S : MS) (x0 : Nat) (x1 : Int32) (x2 : Int32) (x3 : Int32) (x4 : Int32) (x5 : Int32) : Option ((Nat × Int32 × Int32 × Int32 × Int32 × Int32) ⊕ Int32) :=
  (some (x5 + 1)).bind fun v41 =>
  some (.inl (x0, x1, x2, x3, x4, v41))
noncomputable def bX10_readingAt_57 (S : MS) (z0 : Int32) : Option ((Nat × Int32 × Int32 × Int32 × Int32 × Int32) ⊕ Int32) :=
  some (.inr z0)
noncomputable def bX10_readingAt_6 (S : MS) (x0 : Nat) (x1 : Int32) (x2 : Int32) (x3 : Int32) (x4 : Int32) (x5 : Int32) : Option ((Nat × Int32 × Int32 × Int32 × Int32 × Int32) ⊕ Int32) :=
  if (10000 : Int32) ≤ x5 then
    if 0 ≤ x3 then
      bX10_readingAt_57 S (-1 : Int32)
    else
      bX10_readingAt_57 S x4
  else
    (o_is S x0 11).bind fun _ =>
    (fX10_readingOf S x0 x1 x2 x5).bind fun v19 =>
    if v19 < 0 then
      bX10_readingAt_41 S x0 x1 x2 x3 x4 x5
    else
      if x4 = x3 then
        some (.inr v19)
      else
        (some (x4 + 1)).bind fun v38 =>
        bX10_readingAt_41 S x0 x1 x2 x3 v38 x5
noncomputable def sX10_readingAt (S : MS) : (Nat × Int32 × Int32 × Int32 × Int32 × Int32) → Option ((Nat × Int32 × Int32 × Int32 × Int32 × Int32) ⊕ Int32) := (fun t => bX10_readingAt_6 S t.1 t.2.1 t.2.2.1 t.2.2.2.1 t.2.2.2.2.1 t.2.2.2.2.2)
noncomputable def hX10_readingAt_6 (S : MS) (x0 : Nat) (x1 : Int32) (x2 : Int32) (x3 : Int32) (x4 : Int32) (x5 : Int32) : Option Int32 := lim (sX10_readingAt S) (x0, x1, x2, x3, x4, x5)
theorem qX10_readingAt_6 (S : MS) (x0 : Nat) (x1 : Int32) (x2 : Int32) (x3 : Int32) (x4 : Int32) (x5 : Int32) : hX10_readingAt_6 S x0 x1 x2 x3 x4 x5 = fin (sX10_readingAt S) (bX10_readingAt_6 S x0 x1 x2 x3 x4 x5) := lim_eq _ _
noncomputable def fX10_readingAt (S : MS) (a0 : Nat) (a1 : Int32) (a2 : Int32) (a3 : Int32) : Option Int32 := fin (sX10_readingAt S) (bX10_readingAt_0 S a0 a1 a2 a3)
noncomputable def bX10_reading_12 (S : MS) : Option Int32 :=
  some (-1 : Int32)
noncomputable def bX10_reading_38 (S : MS) (z0 : Int32) : Option Int32 :=
  some z0
noncomputable def bX10_reading_0 (S : MS) (x0 : Nat) (x1 : Int32) (x2 : Int32) (x3 : Int32) : Option Int32 :=
  (o_is S x0 11).bind fun _ =>
  (fX10_noWire S x0 x1).bind fun v2 =>
  if v2 = 0 then
    if 0 ≤ x3 then
      (fX10_in (x2.toInt64) (0 : Int64) (2 : Int64)).bind fun v20 =>
      if v20 = 0 then
        bX10_reading_38 S (-2 : Int32)
      else
        (o_is S x0 11).bind fun _ =>
        (fX10_readingAt S x0 x1 x2 x3).bind fun v30 =>
        bX10_reading_38 S v30
    else
      bX10_reading_12 S
  else
    bX10_reading_12 S
noncomputable def fX10_reading (S : MS) (a0 : Nat) (a1 : Int32) (a2 : Int32) (a3 : Int32) : Option Int32 := bX10_reading_0 S a0 a1 a2 a3
noncomputable def bX10_readings_34 (S : MS) (z0 : Int32) : Option Int32 :=
  some z0
noncomputable def bX10_readings_0 (S : MS) (x0 : Nat) (x1 : Int32) (x2 : Int32) : Option Int32 :=
  (o_is S x0 11).bind fun _ =>
  (fX10_noWire S x0 x1).bind fun v2 =>
  if v2 = 0 then
    (fX10_in (x2.toInt64) (0 : Int64) (2 : Int64)).bind fun v16 =>
    if v16 = 0 then
      bX10_readings_34 S (-2 : Int32)
    else
      (o_is S x0 11).bind fun _ =>
      (fX10_readingAt S x0 x1 x2 (-1 : Int32)).bind fun v26 =>
      bX10_readings_34 S v26
  else
    some (-1 : Int32)
noncomputable def fX10_readings (S : MS) (a0 : Nat) (a1 : Int32) (a2 : Int32) : Option Int32 := bX10_readings_0 S a0 a1 a2
noncomputable def bX10_sheet_31 (S : MS) (x0 : Nat) : Option ((Nat × Int32 × Int32 × Int32 × MS) ⊕ (Int32 × MS)) :=
  (o_is S x0 11).bind fun _ =>
  b2 (fX10_refused S x0 (-2 : Int32)) fun v34 S34 =>
  some (.inr (v34, S34))
noncomputable def bX10_sheet_0 (S : MS) (x0 : Nat) (x1 : Int32) (x2 : Int32) (x3 : Int32) : Option ((Nat × Int32 × Int32 × Int32 × MS) ⊕ (Int32 × MS)) :=
  (fX10_noSheet x1).bind fun v1 =>
  if v1 = 0 then
    (fX10_in (x2.toInt64) (0 : Int64) (2 : Int64)).bind fun v19 =>
    if v19 = 0 then
      bX10_sheet_31 S x0
    else
      if x3 ≤ (60 : Int32) then
        if 0 ≤ x3 then
          (o_gP S x0 11 53).bind fun v49 =>
          (o_st S v49 12 x1 x3).bind fun S54 =>
          (o_gP S54 x0 11 54).bind fun v56 =>
          (o_st S54 v56 12 x1 x2).bind fun S61 =>
          some (.inl (x0, x1, x3, (0 : Int32), S61))
        else
          (o_is S x0 11).bind fun _ =>
          b2 (fX10_failed S x0 (4 : Int32)) fun v44 S44 =>
          some (.inr (v44, S44))
      else
        bX10_sheet_31 S x0
  else
    (o_is S x0 11).bind fun _ =>
    b2 (fX10_refused S x0 (-1 : Int32)) fun v9 S9 =>
    some (.inr (v9, S9))
noncomputable def bX10_sheet_65 (S : MS) (x0 : Nat) (x1 : Int32) (x3 : Int32) (x4 : Int32) : Option ((Nat × Int32 × Int32 × Int32 × MS) ⊕ (Int32 × MS)) :=
  if x3 ≤ x4 then
    (o_is S x0 11).bind fun _ =>
    b2 (fX10_refused S x0 (1 : Int32)) fun v92 S92 =>
    some (.inr (v92, S92))
  else
    (o_gP S x0 11 55).bind fun v72 =>
    (o_st S v72 12 (((60 : Int32) * x1) + x4) (0 : Int32)).bind fun S83 =>
    (some (x4 + 1)).bind fun v84 =>
    some (.inl (x0, x1, x3, v84, S83))
noncomputable def sX10_sheet : (Nat × Int32 × Int32 × Int32 × MS) → Option ((Nat × Int32 × Int32 × Int32 × MS) ⊕ (Int32 × MS)) := (fun t => bX10_sheet_65 t.2.2.2.2 t.1 t.2.1 t.2.2.1 t.2.2.2.1)
noncomputable def hX10_sheet_65 (S : MS) (x0 : Nat) (x1 : Int32) (x3 : Int32) (x4 : Int32) : Option (Int32 × MS) := lim (sX10_sheet) (x0, x1, x3, x4, S)
theorem qX10_sheet_65 (S : MS) (x0 : Nat) (x1 : Int32) (x3 : Int32) (x4 : Int32) : hX10_sheet_65 S x0 x1 x3 x4 = fin (sX10_sheet) (bX10_sheet_65 S x0 x1 x3 x4) := lim_eq _ _
noncomputable def fX10_sheet (S : MS) (a0 : Nat) (a1 : Int32) (a2 : Int32) (a3 : Int32) : Option (Int32 × MS) := fin (sX10_sheet) (bX10_sheet_0 S a0 a1 a2 a3)
noncomputable def bX10_steep_0 (S : MS) (x0 : Nat) (x1 : Int32) : Option (Int32 × MS) :=
  (fX10_in (x1.toInt64) (1 : Int64) (500 : Int64)).bind fun v6 =>
  if v6 = 0 then
    some ((-2 : Int32), S)
  else
    (o_gI S x0 11 17).bind fun v16 =>
    (o_sI S x0 11 17 x1).bind fun S22 =>
    (o_sI S22 x0 11 18 (0 : Int32)).bind fun S27 =>
    some (v16, S27)
noncomputable def fX10_steep (S : MS) (a0 : Nat) (a1 : Int32) : Option (Int32 × MS) := bX10_steep_0 S a0 a1
noncomputable def bX10_tell_87 (S : MS) (z0 : Int32) (z1 : Int32) : Option (Int32 × MS) :=
  some ((z0 + z1), S)
noncomputable def bX10_tell_71 (S : MS) (x0 : Nat) (x1 : Int32) (x2 : Int32) (z0 : Int32) (z1 : Int32) : Option (Int32 × MS) :=
  if x2 = (2 : Int32) then
    (o_gP S x0 11 5).bind fun v78 =>
    (o_ld S v78 12 x1).bind fun v82 =>
    bX10_tell_87 S (z0 + z1) v82
  else
    bX10_tell_87 S (z0 + z1) (0 : Int32)
noncomputable def bX10_tell_51 (S : MS) (x0 : Nat) (x1 : Int32) (x2 : Int32) : Option (Int32 × MS) :=
  (o_gP S x0 11 5).bind fun v52 =>
  (o_ld S v52 12 x1).bind fun v56 =>
  if x2 ≤ 0 then
    bX10_tell_71 S x0 x1 x2 v56 (0 : Int32)
  else
    (o_gP S x0 11 6).bind fun v62 =>
    (o_ld S v62 12 x1).bind fun v66 =>
    bX10_tell_71 S x0 x1 x2 v56 v66
noncomputable def bX10_tell_36 (S : MS) (x0 : Nat) (x1 : Int32) (x2 : Int32) : Option (Int32 × MS) :=
  (o_is S x0 11).bind fun _ =>
  (fX10_traced S x0 (1 : Int32)).bind fun S38 =>
  if x2 = (2 : Int32) then
    (o_is S38 x0 11).bind fun _ =>
    (fX10_traced S38 x0 (1 : Int32)).bind fun S48 =>
    bX10_tell_51 S48 x0 x1 x2
  else
    bX10_tell_51 S38 x0 x1 x2
noncomputable def bX10_tell_27 (S : MS) (x0 : Nat) (x1 : Int32) (x2 : Int32) : Option (Int32 × MS) :=
  if x2 ≤ 0 then
    bX10_tell_36 S x0 x1 x2
  else
    (o_is S x0 11).bind fun _ =>
    (fX10_traced S x0 (2 : Int32)).bind fun S33 =>
    bX10_tell_36 S33 x0 x1 x2
noncomputable def bX10_tell_0 (S : MS) (x0 : Nat) (x1 : Int32) : Option (Int32 × MS) :=
  (o_is S x0 11).bind fun _ =>
  (fX10_noPost S x0 x1).bind fun v2 =>
  if v2 = 0 then
    (o_gP S x0 11 2).bind fun v11 =>
    (o_ld S v11 12 x1).bind fun v15 =>
    if v15 = (2 : Int32) then
      (o_is S x0 11).bind fun _ =>
      (fX10_traced S x0 (3 : Int32)).bind fun S24 =>
      bX10_tell_27 S24 x0 x1 v15
    else
      bX10_tell_27 S x0 x1 v15
  else
    some ((-1 : Int32), S)
noncomputable def fX10_tell (S : MS) (a0 : Nat) (a1 : Int32) : Option (Int32 × MS) := bX10_tell_0 S a0 a1
noncomputable def bX10_told_85 (S : MS) (z0 : Int32) : Option (Int32 × MS) :=
  some (z0, S)
noncomputable def bX10_told_0 (S : MS) (x0 : Nat) (x1 : Int32) (x2 : Int32) : Option (Int32 × MS) :=
  (o_is S x0 11).bind fun _ =>
  (fX10_noWire S x0 x1).bind fun v2 =>
  if v2 = 0 then
    (o_is S x0 11).bind fun _ =>
    (fX10_layChart S x0).bind fun S11 =>
    if x2 = (0 : Int32) then
      (o_gP S11 x0 11 9).bind fun v45 =>
      (o_ld S11 v45 12 x1).bind fun v49 =>
      some (v49, S11)
    else
    if x2 = (1 : Int32) then
      (o_gP S11 x0 11 10).bind fun v52 =>
      (o_ld S11 v52 12 x1).bind fun v56 =>
      some (v56, S11)
    else
    if x2 = (2 : Int32) then
      (o_gP S11 x0 11 11).bind fun v59 =>
      (o_ld S11 v59 12 x1).bind fun v63 =>
      some (v63, S11)
    else
    if x2 = (3 : Int32) then
      (o_gP S11 x0 11 20).bind fun v66 =>
      (o_gP S11 x0 11 9).bind fun v70 =>
      (o_ld S11 v70 12 x1).bind fun v74 =>
      (o_ld S11 v66 12 v74).bind fun v75 =>
      if v75 = x1 then
        bX10_told_85 S11 (1 : Int32)
      else
        bX10_told_85 S11 (0 : Int32)
    else
    some ((-2 : Int32), S11)
  else
    some ((-1 : Int32), S)
noncomputable def fX10_told (S : MS) (a0 : Nat) (a1 : Int32) (a2 : Int32) : Option (Int32 × MS) := bX10_told_0 S a0 a1 a2
noncomputable def bX10_trace_0 (S : MS) (x0 : Nat) : Option Int32 :=
  (o_gI S x0 11 57).bind fun v1 =>
  some v1
noncomputable def fX10_trace (S : MS) (a0 : Nat) : Option Int32 := bX10_trace_0 S a0
noncomputable def bX10_value_0 (S : MS) (x0 : Nat) (x1 : Int32) (x2 : Int32) : Option (Int32 × MS) :=
  (fX10_isPlace x1 x2).bind fun v2 =>
  if v2 = 0 then
    some ((-1 : Int32), S)
  else
    (o_is S x0 11).bind fun _ =>
    (fX10_layChart S x0).bind fun S11 =>
    (o_gP S11 x0 11 24).bind fun v15 =>
    (o_ld S11 v15 12 (((12 : Int32) * x2) + x1)).bind fun v24 =>
    some (v24, S11)
noncomputable def fX10_value (S : MS) (a0 : Nat) (a1 : Int32) (a2 : Int32) : Option (Int32 × MS) := bX10_value_0 S a0 a1 a2
noncomputable def bX10_verified_0 (S : MS) (x0 : Nat) (x1 : Int32) (x2 : Int32) : Option ((Nat × Int32 × Int32 × Int32 × Int32 × MS) ⊕ (Int32 × MS)) :=
  (o_gI S x0 11 44).bind fun v4 =>
  (fX10_in (x1.toInt64) (0 : Int64) ((v4.toInt64) - (1 : Int64))).bind fun v10 =>
  if v10 = 0 then
    some (.inr ((-1 : Int32), S))
  else
    (fX10_in (x2.toInt64) (0 : Int64) (2 : Int64)).bind fun v24 =>
    if v24 = 0 then
      some (.inr ((-2 : Int32), S))
    else
      (o_is S x0 11).bind fun _ =>
      (fX10_layChart S x0).bind fun S34 =>
      some (.inl (x0, x1, x2, (0 : Int32), (0 : Int32), S34))
noncomputable def bX10_verified_75 (S : MS) (x0 : Nat) (x1 : Int32) (x2 : Int32) (x4 : Int32) (z0 : Int32) (z1 : Int32) : Option ((Nat × Int32 × Int32 × Int32 × Int32 × MS) ⊕ (Int32 × MS)) :=
  (some ((z0 ||| z1))).bind fun v76 =>
  (some (x4 + 1)).bind fun v77 =>
  some (.inl (x0, x1, x2, v76, v77, S))
noncomputable def bX10_verified_109 (S : MS) (z0 : Int32) : Option ((Nat × Int32 × Int32 × Int32 × Int32 × MS) ⊕ (Int32 × MS)) :=
  some (.inr (z0, S))
noncomputable def bX10_verified_42 (S : MS) (x0 : Nat) (x1 : Int32) (x2 : Int32) (x3 : Int32) (x4 : Int32) : Option ((Nat × Int32 × Int32 × Int32 × Int32 × MS) ⊕ (Int32 × MS)) :=
  (o_gP S x0 11 45).bind fun v45 =>
  (o_ld S v45 12 x1).bind fun v49 =>
  if v49 ≤ x4 then
    if x2 = 0 then
      (o_gP S x0 11 45).bind fun v88 =>
      (o_ld S v88 12 x1).bind fun v92 =>
      bX10_verified_109 S v92
    else
      if x2 = (1 : Int32) then
        (fX10_count x3).bind fun v102 =>
        bX10_verified_109 S v102
      else
        bX10_verified_109 S x3
  else
    (o_is S x0 11).bind fun _ =>
    (fX10_isTrue S x0 (((5 : Int32) * x1) + x4)).bind fun v61 =>
    if v61 = 0 then
      bX10_verified_75 S x0 x1 x2 x4 x3 (0 : Int32)
    else
      bX10_verified_75 S x0 x1 x2 x4 x3 ((1 : Int32) <<< (x4 &&& 31))
noncomputable def sX10_verified : (Nat × Int32 × Int32 × Int32 × Int32 × MS) → Option ((Nat × Int32 × Int32 × Int32 × Int32 × MS) ⊕ (Int32 × MS)) := (fun t => bX10_verified_42 t.2.2.2.2.2 t.1 t.2.1 t.2.2.1 t.2.2.2.1 t.2.2.2.2.1)
noncomputable def hX10_verified_42 (S : MS) (x0 : Nat) (x1 : Int32) (x2 : Int32) (x3 : Int32) (x4 : Int32) : Option (Int32 × MS) := lim (sX10_verified) (x0, x1, x2, x3, x4, S)
theorem qX10_verified_42 (S : MS) (x0 : Nat) (x1 : Int32) (x2 : Int32) (x3 : Int32) (x4 : Int32) : hX10_verified_42 S x0 x1 x2 x3 x4 = fin (sX10_verified) (bX10_verified_42 S x0 x1 x2 x3 x4) := lim_eq _ _
noncomputable def fX10_verified (S : MS) (a0 : Nat) (a1 : Int32) (a2 : Int32) : Option (Int32 × MS) := fin (sX10_verified) (bX10_verified_0 S a0 a1 a2)
noncomputable def bX10_view_24 (S : MS) : Option (Int32 × MS) :=
  some ((-2 : Int32), S)
noncomputable def bX10_view_0 (S : MS) (x0 : Nat) (x1 : Int32) (x2 : Int32) : Option (Int32 × MS) :=
  (fX10_in (x1.toInt64) (0 : Int64) (99 : Int64)).bind fun v6 =>
  if v6 = 0 then
    bX10_view_24 S
  else
    (fX10_in (x2.toInt64) (0 : Int64) (99 : Int64)).bind fun v18 =>
    if v18 = 0 then
      bX10_view_24 S
    else
      (o_sI S x0 11 15 x1).bind fun S29 =>
      (o_sI S29 x0 11 16 x2).bind fun S34 =>
      (o_sI S34 x0 11 18 (0 : Int32)).bind fun S39 =>
      (o_is S39 x0 11).bind fun _ =>
      (fX10_layChart S39 x0).bind fun S43 =>
      (o_gI S43 x0 11 19).bind fun v47 =>
      some (v47, S43)
noncomputable def fX10_view (S : MS) (a0 : Nat) (a1 : Int32) (a2 : Int32) : Option (Int32 × MS) := bX10_view_0 S a0 a1 a2
noncomputable def bX10_wire_16 (S : MS) (x0 : Nat) : Option (((Nat × Int32 × Int32 × Int32 × Int32 × Int32 × Int32 × MS) ⊕ (Nat × Int32 × Int32 × Int32 × Int32 × Int32 × Int32 × MS)) ⊕ (Int32 × MS)) :=
  (o_is S x0 11).bind fun _ =>
  b2 (fX10_refused S x0 (-1 : Int32)) fun v18 S18 =>
  some (.inr (v18, S18))
noncomputable def bX10_wire_59 (S : MS) (x0 : Nat) : Option (((Nat × Int32 × Int32 × Int32 × Int32 × Int32 × Int32 × MS) ⊕ (Nat × Int32 × Int32 × Int32 × Int32 × Int32 × Int32 × MS)) ⊕ (Int32 × MS)) :=
  (o_is S x0 11).bind fun _ =>
  b2 (fX10_refused S x0 (-2 : Int32)) fun v62 S62 =>
  some (.inr (v62, S62))
noncomputable def bX10_wire_94 (S : MS) (x0 : Nat) (x1 : Int32) (x2 : Int32) (x3 : Int32) (x4 : Int32) (x6 : Int32) : Option (((Nat × Int32 × Int32 × Int32 × Int32 × Int32 × Int32 × MS) ⊕ (Nat × Int32 × Int32 × Int32 × Int32 × Int32 × Int32 × MS)) ⊕ (Int32 × MS)) :=
  (o_gP S x0 11 53).bind fun v95 =>
  (o_ld S v95 12 x4).bind fun v100 =>
  if 0 ≤ v100 then
    (o_gP S x0 11 53).bind fun v116 =>
    (o_ld S v116 12 x4).bind fun v121 =>
    (fX10_isBeyond x6 (15 : Int64) v121).bind fun v122 =>
    if v122 = 0 then
      some (.inl (.inl (x0, x1, x2, x3, x4, x6, (0 : Int32), S)))
    else
      (o_is S x0 11).bind fun _ =>
      b2 (fX10_failed S x0 (3 : Int32)) fun v130 S130 =>
      some (.inr (v130, S130))
  else
    (o_is S x0 11).bind fun _ =>
    b2 (fX10_failed S x0 (1 : Int32)) fun v106 S106 =>
    some (.inr (v106, S106))
noncomputable def bX10_wire_0 (S : MS) (x0 : Nat) (x1 : Int32) (x2 : Int32) (x3 : Int32) (x4 : Int32) (x5 : Int32) (x6 : Int32) : Option (((Nat × Int32 × Int32 × Int32 × Int32 × Int32 × Int32 × MS) ⊕ (Nat × Int32 × Int32 × Int32 × Int32 × Int32 × Int32 × MS)) ⊕ (Int32 × MS)) :=
  (o_is S x0 11).bind fun _ =>
  (fX10_noPost S x0 x1).bind fun v2 =>
  if v2 = 0 then
    (fX10_noSheet x4).bind fun v10 =>
    if v10 = 0 then
      (fX10_in (x5.toInt64) (0 : Int64) (2 : Int64)).bind fun v29 =>
      if v29 = 0 then
        bX10_wire_59 S x0
      else
        (fX10_in (x2.toInt64) (0 : Int64) (99 : Int64)).bind fun v41 =>
        if v41 = 0 then
          bX10_wire_59 S x0
        else
          (fX10_in (x3.toInt64) (0 : Int64) (99 : Int64)).bind fun v53 =>
          if v53 = 0 then
            bX10_wire_59 S x0
          else
            (o_gP S x0 11 53).bind fun v67 =>
            (o_ld S v67 12 x4).bind fun v72 =>
            if v72 < 0 then
              bX10_wire_94 S x0 x1 x2 x3 x4 x6
            else
              (o_gP S x0 11 54).bind fun v77 =>
              (o_ld S v77 12 x4).bind fun v82 =>
              if v82 = x5 then
                bX10_wire_94 S x0 x1 x2 x3 x4 x6
              else
                (o_is S x0 11).bind fun _ =>
                b2 (fX10_failed S x0 (2 : Int32)) fun v90 S90 =>
                some (.inr (v90, S90))
    else
      bX10_wire_16 S x0
  else
    bX10_wire_16 S x0
noncomputable def bX10_wire_137 (S : MS) (x0 : Nat) (x1 : Int32) (x2 : Int32) (x3 : Int32) (x4 : Int32) (x6 : Int32) (x7 : Int32) : Option (((Nat × Int32 × Int32 × Int32 × Int32 × Int32 × Int32 × MS) ⊕ (Nat × Int32 × Int32 × Int32 × Int32 × Int32 × Int32 × MS)) ⊕ (Int32 × MS)) :=
  if (15 : Int32) ≤ x7 then
    (o_gI S x0 11 8).bind fun v187 =>
    if v187 = (30 : Int32) then
      (o_is S x0 11).bind fun _ =>
      b2 (fX10_refused S x0 (-4 : Int32)) fun v198 S198 =>
      some (.inr (v198, S198))
    else
      some (.inl (.inr (x0, x1, x2, x3, x4, x6, (0 : Int32), S)))
  else
    (o_gP S x0 11 55).bind fun v145 =>
    (o_ld S v145 12 ((((60 : Int32) * x4) + x6) + x7)).bind fun v159 =>
    (fX10_in (v159.toInt64) (-1 : Int64) (9 : Int64)).bind fun v167 =>
    if v167 = 0 then
      (o_is S x0 11).bind fun _ =>
      b2 (fX10_refused S x0 (-2 : Int32)) fun v176 S176 =>
      some (.inr (v176, S176))
    else
      (some (x7 + 1)).bind fun v180 =>
      some (.inl (.inl (x0, x1, x2, x3, x4, x6, v180, S)))
noncomputable def bX10_wire_205 (S : MS) (x0 : Nat) (x1 : Int32) (x2 : Int32) (x3 : Int32) (x4 : Int32) (x6 : Int32) (x7 : Int32) : Option (((Nat × Int32 × Int32 × Int32 × Int32 × Int32 × Int32 × MS) ⊕ (Nat × Int32 × Int32 × Int32 × Int32 × Int32 × Int32 × MS)) ⊕ (Int32 × MS)) :=
  if (15 : Int32) ≤ x7 then
    (o_gP S x0 11 9).bind fun v250 =>
    (o_gI S x0 11 8).bind fun v254 =>
    (o_st S v250 12 v254 x1).bind fun S258 =>
    (o_gP S258 x0 11 10).bind fun v260 =>
    (o_gI S258 x0 11 8).bind fun v264 =>
    (o_st S258 v260 12 v264 x2).bind fun S268 =>
    (o_gP S268 x0 11 11).bind fun v270 =>
    (o_gI S268 x0 11 8).bind fun v274 =>
    (o_st S268 v270 12 v274 x3).bind fun S278 =>
    (o_gP S278 x0 11 13).bind fun v280 =>
    (o_gI S278 x0 11 8).bind fun v284 =>
    (o_gI S278 x0 11 8).bind fun v289 =>
    (o_is S278 x0 11).bind fun _ =>
    (fX10_readingAt S278 x0 v289 (1 : Int32) (-1 : Int32)).bind fun v294 =>
    (o_st S278 v280 12 v284 v294).bind fun S297 =>
    (o_gP S297 x0 11 14).bind fun v299 =>
    (o_gI S297 x0 11 8).bind fun v303 =>
    (o_gI S297 x0 11 8).bind fun v308 =>
    (o_is S297 x0 11).bind fun _ =>
    (fX10_readingAt S297 x0 v308 (1 : Int32) (0 : Int32)).bind fun v313 =>
    (o_st S297 v299 12 v303 v313).bind fun S316 =>
    (o_gI S316 x0 11 8).bind fun v319 =>
    (o_sI S316 x0 11 8 (v319 + (1 : Int32))).bind fun S324 =>
    (o_sI S324 x0 11 18 (0 : Int32)).bind fun S329 =>
    (o_gI S329 x0 11 8).bind fun v334 =>
    (o_is S329 x0 11).bind fun _ =>
    b2 (fX10_refused S329 x0 (v334 - (1 : Int32))) fun v339 S339 =>
    some (.inr (v339, S339))
  else
    (o_gP S x0 11 12).bind fun v213 =>
    (o_gI S x0 11 8).bind fun v219 =>
    (o_gP S x0 11 55).bind fun v227 =>
    (o_ld S v227 12 ((((60 : Int32) * x4) + x6) + x7)).bind fun v241 =>
    (o_st S v213 12 (((15 : Int32) * v219) + x7) v241).bind fun S242 =>
    (some (x7 + 1)).bind fun v243 =>
    some (.inl (.inr (x0, x1, x2, x3, x4, x6, v243, S242)))
noncomputable def sX10_wire : ((Nat × Int32 × Int32 × Int32 × Int32 × Int32 × Int32 × MS) ⊕ (Nat × Int32 × Int32 × Int32 × Int32 × Int32 × Int32 × MS)) → Option (((Nat × Int32 × Int32 × Int32 × Int32 × Int32 × Int32 × MS) ⊕ (Nat × Int32 × Int32 × Int32 × Int32 × Int32 × Int32 × MS)) ⊕ (Int32 × MS)) := (Sum.elim (fun t => bX10_wire_137 t.2.2.2.2.2.2.2 t.1 t.2.1 t.2.2.1 t.2.2.2.1 t.2.2.2.2.1 t.2.2.2.2.2.1 t.2.2.2.2.2.2.1) (fun t => bX10_wire_205 t.2.2.2.2.2.2.2 t.1 t.2.1 t.2.2.1 t.2.2.2.1 t.2.2.2.2.1 t.2.2.2.2.2.1 t.2.2.2.2.2.2.1))
noncomputable def hX10_wire_137 (S : MS) (x0 : Nat) (x1 : Int32) (x2 : Int32) (x3 : Int32) (x4 : Int32) (x6 : Int32) (x7 : Int32) : Option (Int32 × MS) := lim (sX10_wire) (.inl (x0, x1, x2, x3, x4, x6, x7, S))
theorem qX10_wire_137 (S : MS) (x0 : Nat) (x1 : Int32) (x2 : Int32) (x3 : Int32) (x4 : Int32) (x6 : Int32) (x7 : Int32) : hX10_wire_137 S x0 x1 x2 x3 x4 x6 x7 = fin (sX10_wire) (bX10_wire_137 S x0 x1 x2 x3 x4 x6 x7) := lim_eq _ _
noncomputable def hX10_wire_205 (S : MS) (x0 : Nat) (x1 : Int32) (x2 : Int32) (x3 : Int32) (x4 : Int32) (x6 : Int32) (x7 : Int32) : Option (Int32 × MS) := lim (sX10_wire) (.inr (x0, x1, x2, x3, x4, x6, x7, S))
theorem qX10_wire_205 (S : MS) (x0 : Nat) (x1 : Int32) (x2 : Int32) (x3 : Int32) (x4 : Int32) (x6 : Int32) (x7 : Int32) : hX10_wire_205 S x0 x1 x2 x3 x4 x6 x7 = fin (sX10_wire) (bX10_wire_205 S x0 x1 x2 x3 x4 x6 x7) := lim_eq _ _
noncomputable def fX10_wire (S : MS) (a0 : Nat) (a1 : Int32) (a2 : Int32) (a3 : Int32) (a4 : Int32) (a5 : Int32) (a6 : Int32) : Option (Int32 × MS) := fin (sX10_wire) (bX10_wire_0 S a0 a1 a2 a3 a4 a5 a6)
noncomputable def bX10_yOf_52 (S : MS) : Option Int32 :=
  some (-1 : Int32)
noncomputable def bX10_yOf_0 (S : MS) (x0 : Nat) (x1 : Int32) (x2 : Int32) (x3 : Int32) : Option Int32 :=
  (fX10_in (x1.toInt64) (0 : Int64) (1 : Int64)).bind fun v4 =>
  if v4 = 0 then
    some (-2 : Int32)
  else
    (o_is S x0 11).bind fun _ =>
    (fX10_noFront S x0 x1 x2).bind fun v16 =>
    if v16 = 0 then
      (o_gP S x0 11 30).bind fun v25 =>
      (o_ld S v25 12 (((5 : Int32) * x1) + x2)).bind fun v33 =>
      (o_gP S x0 11 31).bind fun v36 =>
      (o_ld S v36 12 (((5 : Int32) * x1) + x2)).bind fun v44 =>
      (fX10_in (x3.toInt64) (v33.toInt64) (v44.toInt64)).bind fun v46 =>
      if v46 = 0 then
        bX10_yOf_52 S
      else
        (o_gP S x0 11 33).bind fun v55 =>
        (o_ld S v55 12 (((12 : Int32) * (((5 : Int32) * x1) + x2)) + x3)).bind fun v68 =>
        some v68
    else
      bX10_yOf_52 S
noncomputable def fX10_yOf (S : MS) (a0 : Nat) (a1 : Int32) (a2 : Int32) (a3 : Int32) : Option Int32 := bX10_yOf_0 S a0 a1 a2 a3
set_option maxHeartbeats 4000000 in
set_option maxRecDepth 100000 in
theorem wX10_line_24 {p : Program} {l : Launch} {e : Env} {s : State} {m : MethodId} {args : Array Value} {below : List Frame} {meth : Method} {c : Code} {D : va_G} {cy : Nat → ClassId} (ad : Nat → Nat) (A : Nat → Prop) {S : MS} {S' : MS} {H : Heap} {locs : List Loc} {n0 : Nat} {r : Int32} {out : ((Nat × Int32 × Int32 × Int32 × MS) ⊕ (Int32 × MS))} {ls : Array Slot} (C0 : CX p s m args meth c RX10 cX10_line 5 D cy) (M : ST D cy ad A s.heap (ZN n0 s.heap.size) S H locs) (hr : meth.sig.returnType = some .int) (hF : bX10_line_24 S = some out) (hl : lv_has ls 5 []) (Kr : ∀ r9, out = .inr r9 → r9 = (r, S')) (Kh0 : ∀ (y0 : Nat) (y1 : Int32) (y2 : Int32) (y3 : Int32) (S2 : MS), out = .inl (y0, y1, y2, y3, S2) → ∀ (H1 : Heap) (locs1 : List Loc) (ls1 : Array Slot), ST D cy ad A s.heap (ZN n0 s.heap.size) S2 H1 locs1 → lv_has ls1 5 [(0, .ref (ad y0)), (1, .int y1), (3, .int y2), (4, .int y3)] → W p l e rmX10_line s m args below meth c H1 locs1 0 0 (MQ below (QcM D cy ad A n0 S' (some (.int r))) args s 0 0 A) (F0 m 103 ls1 [])) : W p l e rmX10_line s m args below meth c H locs 0 0 (MQ below (QcM D cy ad A n0 S' (some (.int r))) args s 0 0 A) (F0 m 24 ls []) := by
  unfold bX10_line_24 at hF
  obtain ⟨hx, hb, -, hown, -, hts, -⟩ := id C0
  refine lv_bipush (v := (-2 : Int32)) hx hb dX10_line_24 (by decide) ?_
  obtain ⟨rfl, rfl⟩ := Prod.mk.inj (Kr _ (Option.some.inj hF).symm)
  exact rt_MI C0 M hr dX10_line_26
set_option maxHeartbeats 4000000 in
set_option maxRecDepth 100000 in
theorem wX10_line_0 {p : Program} {l : Launch} {e : Env} {s : State} {m : MethodId} {args : Array Value} {below : List Frame} {meth : Method} {c : Code} {D : va_G} {cy : Nat → ClassId} (ad : Nat → Nat) (A : Nat → Prop) {S : MS} {S' : MS} {H : Heap} {locs : List Loc} {n0 : Nat} {r : Int32} {out : ((Nat × Int32 × Int32 × Int32 × MS) ⊕ (Int32 × MS))} {ls : Array Slot} {x0 : Nat} {x1 : Int32} {x2 : Int32} (C0 : CX p s m args meth c RX10 cX10_line 5 D cy) (M : ST D cy ad A s.heap (ZN n0 s.heap.size) S H locs) (hr : meth.sig.returnType = some .int) (hF : bX10_line_0 S x0 x1 x2 = some out) (hl : lv_has ls 5 [(0, .ref (ad x0)), (1, .int x1), (2, .int x2)]) (Kr : ∀ r9, out = .inr r9 → r9 = (r, S')) (Kh0 : ∀ (y0 : Nat) (y1 : Int32) (y2 : Int32) (y3 : Int32) (S2 : MS), out = .inl (y0, y1, y2, y3, S2) → ∀ (H1 : Heap) (locs1 : List Loc) (ls1 : Array Slot), ST D cy ad A s.heap (ZN n0 s.heap.size) S2 H1 locs1 → lv_has ls1 5 [(0, .ref (ad y0)), (1, .int y1), (3, .int y2), (4, .int y3)] → W p l e rmX10_line s m args below meth c H1 locs1 0 0 (MQ below (QcM D cy ad A n0 S' (some (.int r))) args s 0 0 A) (F0 m 103 ls1 [])) : W p l e rmX10_line s m args below meth c H locs 0 0 (MQ below (QcM D cy ad A n0 S' (some (.int r))) args s 0 0 A) (F0 m 0 ls []) := by
  unfold bX10_line_0 at hF
  obtain ⟨hx, hb, -, hown, -, hts, -⟩ := id C0
  refine lv_iload_n hx hb dX10_line_0 rfl (lv_at hl 1 rfl) ?_
  refine lv_i2l (v := (x1.toInt64)) hx hb dX10_line_1 rfl ?_
  refine lv_lconst (v := (0 : Int64)) hx hb dX10_line_2 (by decide) ?_
  refine lv_ldc2 (v := (20000 : Int64)) hx hb hown (hts _ (uw_of 1434 (by decide +kernel) rfl)) dX10_line_3 ?_
  obtain ⟨v6, hcl, hF⟩ := ob hF
  refine go_SI (r_S (rest := []) (As := [.long (x1.toInt64), .long (0 : Int64), .long (20000 : Int64)]) C0 cb_X10_156 (tX10_in l D cy ad hcl) (pre_S C0) hl dX10_line_6 rfl (Nat.le_of_ble_eq_true rfl) ⟨rfl, rfl⟩ ⟨Nat.le_of_ble_eq_true rfl, Nat.le_of_ble_eq_true rfl⟩ ⟨Nat.le_of_ble_eq_true rfl, Nat.le_of_ble_eq_true rfl⟩ rfl) ?_
  refine lv_if_eq (tgt := 24) hx hb dX10_line_9 (by decide) (fun hc => ?_) (fun hc => ?_)
  · have hF := oi_t hc hF
    exact wX10_line_24 ad A C0 M hr hF (lv_sub hl [] rfl) Kr Kh0
  · have hF := oi_f hc hF
    refine lv_iload_n hx hb dX10_line_12 rfl (lv_at hl 2 rfl) ?_
    refine lv_i2l (v := (x2.toInt64)) hx hb dX10_line_13 rfl ?_
    refine lv_lconst (v := (0 : Int64)) hx hb dX10_line_14 (by decide) ?_
    refine lv_ldc2 (v := (4 : Int64)) hx hb hown (hts _ (uw_of 1380 (by decide +kernel) rfl)) dX10_line_15 ?_
    obtain ⟨v18, hcl, hF⟩ := ob hF
    refine go_SI (r_S (rest := []) (As := [.long (x2.toInt64), .long (0 : Int64), .long (4 : Int64)]) C0 cb_X10_156 (tX10_in l D cy ad hcl) (pre_S C0) hl dX10_line_18 rfl (Nat.le_of_ble_eq_true rfl) ⟨rfl, rfl⟩ ⟨Nat.le_of_ble_eq_true rfl, Nat.le_of_ble_eq_true rfl⟩ ⟨Nat.le_of_ble_eq_true rfl, Nat.le_of_ble_eq_true rfl⟩ rfl) ?_
    refine lv_if_ne (tgt := 27) hx hb dX10_line_21 (by decide) (fun hc => ?_) (fun hc => ?_)
    · have hF := oi_f hc hF
      refine lv_aload_n hx hb dX10_line_27 rfl (lv_at hl 0 rfl) ?_
      obtain ⟨_, hrec, hF⟩ := ob hF
      obtain ⟨S28, hcl, hF⟩ := ob hF
      refine go_MV (r_V (rest := []) (As := []) C0 cb_X10_237 M.1 hrec (tX10_layChart l D cy ad A hcl) (pre_R C0 M.1) hl dX10_line_28 rfl (Nat.le_of_ble_eq_true rfl) ⟨rfl, rfl⟩ ⟨Nat.le_of_ble_eq_true rfl, Nat.le_of_ble_eq_true rfl⟩ ⟨Nat.le_of_ble_eq_true rfl, Nat.le_of_ble_eq_true rfl⟩ rfl) M (fun H locs M => ?_)
      refine lv_aload_n hx hb dX10_line_31 rfl (lv_at hl 0 rfl) ?_
      obtain ⟨v32, hv, hF⟩ := ob hF
      refine k_getP C0 M.1 hv fl_X10_55 dX10_line_32 ?_
      refine lv_iconst (v := (0 : Int32)) hx hb dX10_line_35 (by decide) ?_
      obtain ⟨v36, hv, hF⟩ := ob hF
      refine k_ld C0 M.1 hv dX10_line_36 ?_
      refine lv_bipush (v := (-9 : Int32)) hx hb dX10_line_37 (by decide) ?_
      refine lv_icmp_ne (tgt := 45) hx hb dX10_line_39 (by decide) (fun hc => ?_) (fun hc => ?_)
      · have hF := oi_f hc hF
        refine lv_iconst (v := (0 : Int32)) hx hb dX10_line_45 (by decide) ?_
        refine lv_istore_n (lv' := [(3, .int (0 : Int32)), (0, .ref (ad x0)), (1, .int x1), (2, .int x2)]) hx hb dX10_line_46 rfl hl (by decide) rfl (fun ls hl => ?_)
        refine lv_iload_n hx hb dX10_line_47 rfl (lv_at hl 3 rfl) ?_
        by_cases hc0 : x2 = (0 : Int32)
        · have hF := oi_t hc0 hF
          refine lv_tableIn (tgt := 80) (off := 32) hx hb dX10_line_48 (by rw [hc0]; decide) (by rw [hc0]; decide) (by rw [hc0]; rfl) (by decide) ?_
          refine lv_aload_n hx hb dX10_line_80 rfl (lv_at hl 1 rfl) ?_
          refine lv_iload_n hx hb dX10_line_81 rfl (lv_at hl 2 rfl) ?_
          obtain ⟨_, hrec, hF⟩ := ob hF
          obtain ⟨v82, hcl, hF⟩ := ob hF
          refine go_SI (r_V (rest := []) (As := [.int x1]) C0 cb_X10_306 M.1 hrec (tX10_lengthOf l D cy ad A hcl) (pre_R C0 M.1) hl dX10_line_82 rfl (Nat.le_of_ble_eq_true rfl) ⟨rfl, rfl⟩ ⟨Nat.le_of_ble_eq_true rfl, Nat.le_of_ble_eq_true rfl⟩ ⟨Nat.le_of_ble_eq_true rfl, Nat.le_of_ble_eq_true rfl⟩ rfl) ?_
          obtain ⟨rfl, rfl⟩ := Prod.mk.inj (Kr _ (Option.some.inj hF).symm)
          exact rt_MI C0 M hr dX10_line_85
        have hF := oi_f hc0 hF
        by_cases hc1 : x2 = (1 : Int32)
        · have hF := oi_t hc1 hF
          refine lv_tableIn (tgt := 86) (off := 38) hx hb dX10_line_48 (by rw [hc1]; decide) (by rw [hc1]; decide) (by rw [hc1]; rfl) (by decide) ?_
          refine lv_aload_n hx hb dX10_line_86 rfl (lv_at hl 1 rfl) ?_
          refine lv_iload_n hx hb dX10_line_87 rfl (lv_at hl 2 rfl) ?_
          refine lv_iconst (v := (1 : Int32)) hx hb dX10_line_88 (by decide) ?_
          obtain ⟨_, hrec, hF⟩ := ob hF
          obtain ⟨v89, S89, hcl, hF⟩ := ob2 hF
          refine go_MI (r_V (rest := []) (As := [.int x1, .int (1 : Int32)]) C0 cb_X10_309 M.1 hrec (tX10_piecesOf l D cy ad A hcl) (pre_R C0 M.1) hl dX10_line_89 rfl (Nat.le_of_ble_eq_true rfl) ⟨rfl, rfl⟩ ⟨Nat.le_of_ble_eq_true rfl, Nat.le_of_ble_eq_true rfl⟩ ⟨Nat.le_of_ble_eq_true rfl, Nat.le_of_ble_eq_true rfl⟩ rfl) M (fun H locs M => ?_)
          obtain ⟨rfl, rfl⟩ := Prod.mk.inj (Kr _ (Option.some.inj hF).symm)
          exact rt_MI C0 M hr dX10_line_92
        have hF := oi_f hc1 hF
        by_cases hc2 : x2 = (2 : Int32)
        · have hF := oi_t hc2 hF
          refine lv_tableIn (tgt := 93) (off := 45) hx hb dX10_line_48 (by rw [hc2]; decide) (by rw [hc2]; decide) (by rw [hc2]; rfl) (by decide) ?_
          refine lv_aload_n hx hb dX10_line_93 rfl (lv_at hl 1 rfl) ?_
          refine lv_iload_n hx hb dX10_line_94 rfl (lv_at hl 2 rfl) ?_
          refine lv_iconst (v := (0 : Int32)) hx hb dX10_line_95 (by decide) ?_
          obtain ⟨_, hrec, hF⟩ := ob hF
          obtain ⟨v96, S96, hcl, hF⟩ := ob2 hF
          refine go_MI (r_V (rest := []) (As := [.int x1, .int (0 : Int32)]) C0 cb_X10_309 M.1 hrec (tX10_piecesOf l D cy ad A hcl) (pre_R C0 M.1) hl dX10_line_96 rfl (Nat.le_of_ble_eq_true rfl) ⟨rfl, rfl⟩ ⟨Nat.le_of_ble_eq_true rfl, Nat.le_of_ble_eq_true rfl⟩ ⟨Nat.le_of_ble_eq_true rfl, Nat.le_of_ble_eq_true rfl⟩ rfl) M (fun H locs M => ?_)
          obtain ⟨rfl, rfl⟩ := Prod.mk.inj (Kr _ (Option.some.inj hF).symm)
          exact rt_MI C0 M hr dX10_line_99
        have hF := oi_f hc2 hF
        by_cases hc3 : x2 = (3 : Int32)
        · have hF := oi_t hc3 hF
          refine lv_tableIn (tgt := 100) (off := 52) hx hb dX10_line_48 (by rw [hc3]; decide) (by rw [hc3]; decide) (by rw [hc3]; rfl) (by decide) ?_
          refine lv_iconst (v := (0 : Int32)) hx hb dX10_line_100 (by decide) ?_
          refine lv_istore (lv' := [(4, .int (0 : Int32)), (3, .int (0 : Int32)), (0, .ref (ad x0)), (1, .int x1), (2, .int x2)]) hx hb dX10_line_101 hl (by decide) rfl (fun ls hl => ?_)
          exact Kh0 _ _ _ _ _ (Option.some.inj hF).symm _ _ _ M (lv_sub hl [2, 3, 1, 0] rfl)
        have hF := oi_f hc3 hF
        refine lv_tableOut (tgt := 137) hx hb dX10_line_48 (tsw (x := x2) (n := 4) (by decide) (fun k hk => by rcases (show k = 0 ∨ k = 1 ∨ k = 2 ∨ k = 3 by omega) with rfl | rfl | rfl | rfl <;> first | exact hc0 | exact hc1 | exact hc2 | exact hc3)) (by decide) ?_
        refine lv_aload_n hx hb dX10_line_137 rfl (lv_at hl 1 rfl) ?_
        refine lv_iload_n hx hb dX10_line_138 rfl (lv_at hl 2 rfl) ?_
        obtain ⟨_, hrec, hF⟩ := ob hF
        obtain ⟨v139, hcl, hF⟩ := ob hF
        refine go_SI (r_V (rest := []) (As := [.int x1]) C0 cb_X10_312 M.1 hrec (tX10_wrongOf l D cy ad A hcl) (pre_R C0 M.1) hl dX10_line_139 rfl (Nat.le_of_ble_eq_true rfl) ⟨rfl, rfl⟩ ⟨Nat.le_of_ble_eq_true rfl, Nat.le_of_ble_eq_true rfl⟩ ⟨Nat.le_of_ble_eq_true rfl, Nat.le_of_ble_eq_true rfl⟩ rfl) ?_
        obtain ⟨rfl, rfl⟩ := Prod.mk.inj (Kr _ (Option.some.inj hF).symm)
        exact rt_MI C0 M hr dX10_line_142
      · have hF := oi_t hc hF
        refine lv_bipush (v := (-3 : Int32)) hx hb dX10_line_42 (by decide) ?_
        obtain ⟨rfl, rfl⟩ := Prod.mk.inj (Kr _ (Option.some.inj hF).symm)
        exact rt_MI C0 M hr dX10_line_44
    · have hF := oi_t hc hF
      exact wX10_line_24 ad A C0 M hr hF (lv_sub hl [] rfl) Kr Kh0
set_option maxHeartbeats 4000000 in
set_option maxRecDepth 100000 in
theorem wX10_line_127 {p : Program} {l : Launch} {e : Env} {s : State} {m : MethodId} {args : Array Value} {below : List Frame} {meth : Method} {c : Code} {D : va_G} {cy : Nat → ClassId} (ad : Nat → Nat) (A : Nat → Prop) {S : MS} {S' : MS} {H : Heap} {locs : List Loc} {n0 : Nat} {r : Int32} {out : ((Nat × Int32 × Int32 × Int32 × MS) ⊕ (Int32 × MS))} {ls : Array Slot} {x0 : Nat} {x1 : Int32} {x4 : Int32} {z0 : Int32} {z1 : Int32} (C0 : CX p s m args meth c RX10 cX10_line 5 D cy) (M : ST D cy ad A s.heap (ZN n0 s.heap.size) S H locs) (hr : meth.sig.returnType = some .int) (hF : bX10_line_127 S x0 x1 x4 z0 z1 = some out) (hl : lv_has ls 5 [(0, .ref (ad x0)), (1, .int x1), (4, .int x4)]) (Kr : ∀ r9, out = .inr r9 → r9 = (r, S')) (Kh0 : ∀ (y0 : Nat) (y1 : Int32) (y2 : Int32) (y3 : Int32) (S2 : MS), out = .inl (y0, y1, y2, y3, S2) → ∀ (H1 : Heap) (locs1 : List Loc) (ls1 : Array Slot), ST D cy ad A s.heap (ZN n0 s.heap.size) S2 H1 locs1 → lv_has ls1 5 [(0, .ref (ad y0)), (1, .int y1), (3, .int y2), (4, .int y3)] → W p l e rmX10_line s m args below meth c H1 locs1 0 0 (MQ below (QcM D cy ad A n0 S' (some (.int r))) args s 0 0 A) (F0 m 103 ls1 [])) : W p l e rmX10_line s m args below meth c H locs 0 0 (MQ below (QcM D cy ad A n0 S' (some (.int r))) args s 0 0 A) (F0 m 127 ls [.int z1, .int z0]) := by
  unfold bX10_line_127 at hF
  obtain ⟨hx, hb, -, hown, -, hts, -⟩ := id C0
  refine lv_iadd hx hb dX10_line_127 ?_
  obtain ⟨v128, hv, hF⟩ := ob hF
  have hv := vtI hv
  refine vtopi hv ?_
  refine lv_istore_n (lv' := [(3, .int v128), (0, .ref (ad x0)), (1, .int x1), (4, .int x4)]) hx hb dX10_line_128 rfl hl (by decide) rfl (fun ls hl => ?_)
  obtain ⟨v129, hv, hF⟩ := ob hF
  refine lv_iinc (v := v129) (lv' := [(4, .int v129), (3, .int v128), (0, .ref (ad x0)), (1, .int x1)]) hx hb dX10_line_129 hl (k := 3) rfl (by rw [← vtI hv]; rfl) (by decide) rfl (fun ls hl => ?_)
  refine lv_goto (tgt := 103) hx hb dX10_line_132 (by decide) ?_
  exact Kh0 _ _ _ _ _ (Option.some.inj hF).symm _ _ _ M (lv_sub hl [2, 3, 1, 0] rfl)
set_option maxHeartbeats 4000000 in
set_option maxRecDepth 100000 in
theorem wX10_line_103 {p : Program} {l : Launch} {e : Env} {s : State} {m : MethodId} {args : Array Value} {below : List Frame} {meth : Method} {c : Code} {D : va_G} {cy : Nat → ClassId} (ad : Nat → Nat) (A : Nat → Prop) {S : MS} {S' : MS} {H : Heap} {locs : List Loc} {n0 : Nat} {r : Int32} {out : ((Nat × Int32 × Int32 × Int32 × MS) ⊕ (Int32 × MS))} {ls : Array Slot} {x0 : Nat} {x1 : Int32} {x3 : Int32} {x4 : Int32} (C0 : CX p s m args meth c RX10 cX10_line 5 D cy) (M : ST D cy ad A s.heap (ZN n0 s.heap.size) S H locs) (hr : meth.sig.returnType = some .int) (hF : bX10_line_103 S x0 x1 x3 x4 = some out) (hl : lv_has ls 5 [(0, .ref (ad x0)), (1, .int x1), (3, .int x3), (4, .int x4)]) (Kr : ∀ r9, out = .inr r9 → r9 = (r, S')) (Kh0 : ∀ (y0 : Nat) (y1 : Int32) (y2 : Int32) (y3 : Int32) (S2 : MS), out = .inl (y0, y1, y2, y3, S2) → ∀ (H1 : Heap) (locs1 : List Loc) (ls1 : Array Slot), ST D cy ad A s.heap (ZN n0 s.heap.size) S2 H1 locs1 → lv_has ls1 5 [(0, .ref (ad y0)), (1, .int y1), (3, .int y2), (4, .int y3)] → W p l e rmX10_line s m args below meth c H1 locs1 0 0 (MQ below (QcM D cy ad A n0 S' (some (.int r))) args s 0 0 A) (F0 m 103 ls1 [])) : W p l e rmX10_line s m args below meth c H locs 0 0 (MQ below (QcM D cy ad A n0 S' (some (.int r))) args s 0 0 A) (F0 m 103 ls []) := by
  unfold bX10_line_103 at hF
  obtain ⟨hx, hb, -, hown, -, hts, -⟩ := id C0
  refine lv_iload hx hb dX10_line_103 (lv_at hl 3 rfl) ?_
  refine lv_sipush (v := (144 : Int32)) hx hb dX10_line_105 (by decide) ?_
  refine lv_icmp_ge (tgt := 135) hx hb dX10_line_108 (by decide) (fun hc => ?_) (fun hc => ?_)
  · have hF := oi_t hc hF
    refine lv_iload_n hx hb dX10_line_135 rfl (lv_at hl 2 rfl) ?_
    obtain ⟨rfl, rfl⟩ := Prod.mk.inj (Kr _ (Option.some.inj hF).symm)
    exact rt_MI C0 M hr dX10_line_136
  · have hF := oi_f hc hF
    refine lv_iload_n hx hb dX10_line_111 rfl (lv_at hl 2 rfl) ?_
    refine lv_aload_n hx hb dX10_line_112 rfl (lv_at hl 0 rfl) ?_
    refine lv_iload hx hb dX10_line_113 (lv_at hl 3 rfl) ?_
    refine lv_iload_n hx hb dX10_line_115 rfl (lv_at hl 1 rfl) ?_
    obtain ⟨_, hrec, hF⟩ := ob hF
    obtain ⟨v116, hcl, hF⟩ := ob hF
    refine go_SI (r_V (rest := [.int x3]) (As := [.int x4, .int x1]) C0 cb_X10_293 M.1 hrec (tX10_isBelow l D cy ad A hcl) (pre_R C0 M.1) hl dX10_line_116 rfl (Nat.le_of_ble_eq_true rfl) ⟨rfl, rfl⟩ ⟨Nat.le_of_ble_eq_true rfl, Nat.le_of_ble_eq_true rfl⟩ ⟨Nat.le_of_ble_eq_true rfl, Nat.le_of_ble_eq_true rfl⟩ rfl) ?_
    refine lv_if_eq (tgt := 126) hx hb dX10_line_119 (by decide) (fun hc => ?_) (fun hc => ?_)
    · have hF := oi_t hc hF
      refine lv_iconst (v := (0 : Int32)) hx hb dX10_line_126 (by decide) ?_
      exact wX10_line_127 ad A C0 M hr hF (lv_sub hl [0, 1, 3] rfl) Kr Kh0
    · have hF := oi_f hc hF
      refine lv_iconst (v := (1 : Int32)) hx hb dX10_line_122 (by decide) ?_
      refine lv_goto (tgt := 127) hx hb dX10_line_123 (by decide) ?_
      exact wX10_line_127 ad A C0 M hr hF (lv_sub hl [0, 1, 3] rfl) Kr Kh0
set_option maxHeartbeats 4000000 in
set_option maxRecDepth 100000 in
theorem tX10_line (l : Launch) (D : va_G) (cy : Nat → ClassId) (ad : Nat → Nat) (A : Nat → Prop) {S S' : MS} {a0 : Nat} {a1 : Int32} {a2 : Int32} {r : Int32} (h : fX10_line S a0 a1 a2 = some (r, S')) : Met l yX10_line [Cond.code yX10_line cX10_line 5 (some .int)] rmX10_line (PcR D cy ad A S [.ref (ad a0), .int a1, .int a2]) (QcM D cy ad A (m_n S) S' (some (.int r))) 0 0 A := by
  refine met_M (by decide +kernel) cw_X10_line (Nat.le_of_ble_eq_true rfl) ?_
  intro p e s m args below meth c ls C0 M hr hin hl
  have hl : lv_has ls 5 [(0, .ref (ad a0)), (1, .int a1), (2, .int a2)] := hl
  have key := lim_walk (step := sX10_line) (fun (q : (Nat × Int32 × Int32 × Int32 × MS)) (r9 : (Int32 × MS)) => ∀ (r : Int32) (S' : MS), r9 = (r, S') → ((∀ (y0 : Nat) (y1 : Int32) (y2 : Int32) (y3 : Int32) (S2 : MS), q = (y0, y1, y2, y3, S2) → ∀ (H1 : Heap) (locs1 : List Loc) (ls1 : Array Slot), ST D cy ad A s.heap (ZN (m_n S) s.heap.size) S2 H1 locs1 → lv_has ls1 5 [(0, .ref (ad y0)), (1, .int y1), (3, .int y2), (4, .int y3)] → W p l e rmX10_line s m args below meth c H1 locs1 0 0 (MQ below (QcM D cy ad A (m_n S) S' (some (.int r))) args s 0 0 A) (F0 m 103 ls1 [])))) ?_
  · unfold fX10_line at h
    cases hs0 : bX10_line_0 S a0 a1 a2 with
    | none => rw [hs0] at h; cases h
    | some out =>
      rw [hs0] at h
      refine wX10_line_0 ad A C0 M hr hs0 hl (fun r9 hr9 => ?_) ?_
      · subst hr9; exact Option.some.inj h
      · intro y0 y1 y2 y3 y4 hq; subst hq; exact (key _ _ h _ _ rfl) _ _ _ _ _ rfl
  · intro q r9 out hst hre hin9
    intro r S' er; subst er
    refine ?_
    · intro y0 y1 y2 y3 y4 hq H1 locs1 ls1 M hl
      subst hq
      exact wX10_line_103 ad A C0 M hr hst hl hre (fun k0 k1 k2 k3 k4 hk => (hin9 _ hk _ _ rfl) _ _ _ _ _ rfl)
set_option maxHeartbeats 4000000 in
set_option maxRecDepth 100000 in
theorem wX10_lose_23 {p : Program} {l : Launch} {e : Env} {s : State} {m : MethodId} {args : Array Value} {below : List Frame} {meth : Method} {c : Code} {D : va_G} {cy : Nat → ClassId} (ad : Nat → Nat) (A : Nat → Prop) {S : MS} {S' : MS} {H : Heap} {locs : List Loc} {n0 : Nat} {r : Int32} {ls : Array Slot} {x0 : Nat} {x1 : Int32} {z0 : Int32} (C0 : CX p s m args meth c RX10 cX10_lose 3 D cy) (M : ST D cy ad A s.heap (ZN n0 s.heap.size) S H locs) (hr : meth.sig.returnType = some .int) (hF : bX10_lose_23 S x0 x1 z0 = some (r, S')) (hl : lv_has ls 3 [(0, .ref (ad x0)), (1, .int x1)]) : W p l e rmX10_lose s m args below meth c H locs 0 0 (MQ below (QcM D cy ad A n0 S' (some (.int r))) args s 0 0 A) (F0 m 23 ls [.int z0]) := by
  unfold bX10_lose_23 at hF
  obtain ⟨hx, hb, -, hown, -, hts, -⟩ := id C0
  refine lv_istore_n (lv' := [(2, .int z0), (0, .ref (ad x0)), (1, .int x1)]) hx hb dX10_lose_23 rfl hl (by decide) rfl (fun ls hl => ?_)
  refine lv_aload_n hx hb dX10_lose_24 rfl (lv_at hl 1 rfl) ?_
  obtain ⟨v25, hv, hF⟩ := ob hF
  refine k_getP C0 M.1 hv fl_X10_125 dX10_lose_25 ?_
  refine lv_iload_n hx hb dX10_lose_28 rfl (lv_at hl 2 rfl) ?_
  refine lv_iconst (v := (-1 : Int32)) hx hb dX10_lose_29 (by decide) ?_
  obtain ⟨S30, hv, hF⟩ := ob hF
  refine k_st C0 M hv dX10_lose_30 (fun H locs M => ?_)
  refine lv_iload_n hx hb dX10_lose_31 rfl (lv_at hl 0 rfl) ?_
  obtain ⟨rfl, rfl⟩ := Prod.mk.inj (Option.some.inj hF)
  exact rt_MI C0 M hr dX10_lose_32
set_option maxHeartbeats 4000000 in
set_option maxRecDepth 100000 in
theorem wX10_lose_0 {p : Program} {l : Launch} {e : Env} {s : State} {m : MethodId} {args : Array Value} {below : List Frame} {meth : Method} {c : Code} {D : va_G} {cy : Nat → ClassId} (ad : Nat → Nat) (A : Nat → Prop) {S : MS} {S' : MS} {H : Heap} {locs : List Loc} {n0 : Nat} {r : Int32} {ls : Array Slot} {x0 : Nat} {x1 : Int32} (C0 : CX p s m args meth c RX10 cX10_lose 3 D cy) (M : ST D cy ad A s.heap (ZN n0 s.heap.size) S H locs) (hr : meth.sig.returnType = some .int) (hF : bX10_lose_0 S x0 x1 = some (r, S')) (hl : lv_has ls 3 [(0, .ref (ad x0)), (1, .int x1)]) : W p l e rmX10_lose s m args below meth c H locs 0 0 (MQ below (QcM D cy ad A n0 S' (some (.int r))) args s 0 0 A) (F0 m 0 ls []) := by
  unfold bX10_lose_0 at hF
  obtain ⟨hx, hb, -, hown, -, hts, -⟩ := id C0
  refine lv_iload_n hx hb dX10_lose_0 rfl (lv_at hl 1 rfl) ?_
  obtain ⟨v1, hcl, hF⟩ := ob hF
  refine go_SI (r_S (rest := []) (As := [.int x1]) C0 cb_X10_212 (tX10_noSheet l D cy ad hcl) (pre_S C0) hl dX10_lose_1 rfl (Nat.le_of_ble_eq_true rfl) ⟨rfl, rfl⟩ ⟨Nat.le_of_ble_eq_true rfl, Nat.le_of_ble_eq_true rfl⟩ ⟨Nat.le_of_ble_eq_true rfl, Nat.le_of_ble_eq_true rfl⟩ rfl) ?_
  refine lv_if_eq (tgt := 9) hx hb dX10_lose_4 (by decide) (fun hc => ?_) (fun hc => ?_)
  · have hF := oi_t hc hF
    refine lv_aload_n hx hb dX10_lose_9 rfl (lv_at hl 0 rfl) ?_
    obtain ⟨v10, hv, hF⟩ := ob hF
    refine k_getP C0 M.1 hv fl_X10_125 dX10_lose_10 ?_
    refine lv_iload_n hx hb dX10_lose_13 rfl (lv_at hl 1 rfl) ?_
    obtain ⟨v14, hv, hF⟩ := ob hF
    refine k_ld C0 M.1 hv dX10_lose_14 ?_
    refine lv_if_ge (tgt := 22) hx hb dX10_lose_15 (by decide) (fun hc => ?_) (fun hc => ?_)
    · have hF := oi_t hc hF
      refine lv_iconst (v := (1 : Int32)) hx hb dX10_lose_22 (by decide) ?_
      exact wX10_lose_23 ad A C0 M hr hF (lv_sub hl [0, 1] rfl)
    · have hF := oi_f hc hF
      refine lv_iconst (v := (0 : Int32)) hx hb dX10_lose_18 (by decide) ?_
      refine lv_goto (tgt := 23) hx hb dX10_lose_19 (by decide) ?_
      exact wX10_lose_23 ad A C0 M hr hF (lv_sub hl [0, 1] rfl)
  · have hF := oi_f hc hF
    refine lv_iconst (v := (-1 : Int32)) hx hb dX10_lose_7 (by decide) ?_
    obtain ⟨rfl, rfl⟩ := Prod.mk.inj (Option.some.inj hF)
    exact rt_MI C0 M hr dX10_lose_8
set_option maxHeartbeats 4000000 in
set_option maxRecDepth 100000 in
theorem tX10_lose (l : Launch) (D : va_G) (cy : Nat → ClassId) (ad : Nat → Nat) (A : Nat → Prop) {S S' : MS} {a0 : Nat} {a1 : Int32} {r : Int32} (h : fX10_lose S a0 a1 = some (r, S')) : Met l yX10_lose [Cond.code yX10_lose cX10_lose 3 (some .int)] rmX10_lose (PcR D cy ad A S [.ref (ad a0), .int a1]) (QcM D cy ad A (m_n S) S' (some (.int r))) 0 0 A := by
  refine met_M (by decide +kernel) cw_X10_lose (Nat.le_of_ble_eq_true rfl) ?_
  intro p e s m args below meth c ls C0 M hr hin hl
  have hl : lv_has ls 3 [(0, .ref (ad a0)), (1, .int a1)] := hl
  exact wX10_lose_0 ad A C0 M hr h hl
set_option maxHeartbeats 4000000 in
set_option maxRecDepth 100000 in
theorem wX10_many_0 {p : Program} {l : Launch} {e : Env} {s : State} {m : MethodId} {args : Array Value} {below : List Frame} {meth : Method} {c : Code} {D : va_G} {cy : Nat → ClassId} (ad : Nat → Nat) (A : Nat → Prop) {S : MS} {S' : MS} {H : Heap} {locs : List Loc} {n0 : Nat} {r : Int32} {out : ((Nat × Int32 × Int32 × MS) ⊕ (Int32 × MS))} {ls : Array Slot} {x0 : Nat} {x1 : Int32} (C0 : CX p s m args meth c RX10 cX10_many 4 D cy) (M : ST D cy ad A s.heap (ZN n0 s.heap.size) S H locs) (hr : meth.sig.returnType = some .int) (hF : bX10_many_0 S x0 x1 = some out) (hl : lv_has ls 4 [(0, .ref (ad x0)), (1, .int x1)]) (Kr : ∀ r9, out = .inr r9 → r9 = (r, S')) (Kh0 : ∀ (y0 : Nat) (y1 : Int32) (y2 : Int32) (S2 : MS), out = .inl (y0, y1, y2, S2) → ∀ (H1 : Heap) (locs1 : List Loc) (ls1 : Array Slot), ST D cy ad A s.heap (ZN n0 s.heap.size) S2 H1 locs1 → lv_has ls1 4 [(0, .ref (ad y0)), (2, .int y1), (3, .int y2)] → W p l e rmX10_many s m args below meth c H1 locs1 0 0 (MQ below (QcM D cy ad A n0 S' (some (.int r))) args s 0 0 A) (F0 m 102 ls1 [])) : W p l e rmX10_many s m args below meth c H locs 0 0 (MQ below (QcM D cy ad A n0 S' (some (.int r))) args s 0 0 A) (F0 m 0 ls []) := by
  unfold bX10_many_0 at hF
  obtain ⟨hx, hb, -, hown, -, hts, -⟩ := id C0
  refine lv_aload_n hx hb dX10_many_0 rfl (lv_at hl 0 rfl) ?_
  obtain ⟨_, hrec, hF⟩ := ob hF
  obtain ⟨S1, hcl, hF⟩ := ob hF
  refine go_MV (r_V (rest := []) (As := []) C0 cb_X10_237 M.1 hrec (tX10_layChart l D cy ad A hcl) (pre_R C0 M.1) hl dX10_many_1 rfl (Nat.le_of_ble_eq_true rfl) ⟨rfl, rfl⟩ ⟨Nat.le_of_ble_eq_true rfl, Nat.le_of_ble_eq_true rfl⟩ ⟨Nat.le_of_ble_eq_true rfl, Nat.le_of_ble_eq_true rfl⟩ rfl) M (fun H locs M => ?_)
  refine lv_iconst (v := (0 : Int32)) hx hb dX10_many_4 (by decide) ?_
  refine lv_istore_n (lv' := [(2, .int (0 : Int32)), (0, .ref (ad x0)), (1, .int x1)]) hx hb dX10_many_5 rfl hl (by decide) rfl (fun ls hl => ?_)
  refine lv_iload_n hx hb dX10_many_6 rfl (lv_at hl 2 rfl) ?_
  by_cases hc0 : x1 = (0 : Int32)
  · have hF := oi_t hc0 hF
    refine lv_tableIn (tgt := 56) (off := 49) hx hb dX10_many_7 (by rw [hc0]; decide) (by rw [hc0]; decide) (by rw [hc0]; rfl) (by decide) ?_
    refine lv_aload_n hx hb dX10_many_56 rfl (lv_at hl 1 rfl) ?_
    obtain ⟨v57, hv, hF⟩ := ob hF
    refine k_getI C0 M.1 hv fl_X10_153 dX10_many_57 ?_
    obtain ⟨rfl, rfl⟩ := Prod.mk.inj (Kr _ (Option.some.inj hF).symm)
    exact rt_MI C0 M hr dX10_many_60
  have hF := oi_f hc0 hF
  by_cases hc1 : x1 = (1 : Int32)
  · have hF := oi_t hc1 hF
    refine lv_tableIn (tgt := 61) (off := 54) hx hb dX10_many_7 (by rw [hc1]; decide) (by rw [hc1]; decide) (by rw [hc1]; rfl) (by decide) ?_
    refine lv_aload_n hx hb dX10_many_61 rfl (lv_at hl 1 rfl) ?_
    obtain ⟨v62, hv, hF⟩ := ob hF
    refine k_getI C0 M.1 hv fl_X10_201 dX10_many_62 ?_
    obtain ⟨rfl, rfl⟩ := Prod.mk.inj (Kr _ (Option.some.inj hF).symm)
    exact rt_MI C0 M hr dX10_many_65
  have hF := oi_f hc1 hF
  by_cases hc2 : x1 = (2 : Int32)
  · have hF := oi_t hc2 hF
    refine lv_tableIn (tgt := 66) (off := 59) hx hb dX10_many_7 (by rw [hc2]; decide) (by rw [hc2]; decide) (by rw [hc2]; rfl) (by decide) ?_
    refine lv_aload_n hx hb dX10_many_66 rfl (lv_at hl 1 rfl) ?_
    obtain ⟨v67, hv, hF⟩ := ob hF
    refine k_getI C0 M.1 hv fl_X10_272 dX10_many_67 ?_
    obtain ⟨rfl, rfl⟩ := Prod.mk.inj (Kr _ (Option.some.inj hF).symm)
    exact rt_MI C0 M hr dX10_many_70
  have hF := oi_f hc2 hF
  by_cases hc3 : x1 = (3 : Int32)
  · have hF := oi_t hc3 hF
    refine lv_tableIn (tgt := 71) (off := 64) hx hb dX10_many_7 (by rw [hc3]; decide) (by rw [hc3]; decide) (by rw [hc3]; rfl) (by decide) ?_
    refine lv_aload_n hx hb dX10_many_71 rfl (lv_at hl 1 rfl) ?_
    obtain ⟨v72, hv, hF⟩ := ob hF
    refine k_getP C0 M.1 hv fl_X10_68 dX10_many_72 ?_
    refine lv_iconst (v := (0 : Int32)) hx hb dX10_many_75 (by decide) ?_
    obtain ⟨v76, hv, hF⟩ := ob hF
    refine k_ld C0 M.1 hv dX10_many_76 ?_
    obtain ⟨rfl, rfl⟩ := Prod.mk.inj (Kr _ (Option.some.inj hF).symm)
    exact rt_MI C0 M hr dX10_many_77
  have hF := oi_f hc3 hF
  by_cases hc4 : x1 = (4 : Int32)
  · have hF := oi_t hc4 hF
    refine lv_tableIn (tgt := 78) (off := 71) hx hb dX10_many_7 (by rw [hc4]; decide) (by rw [hc4]; decide) (by rw [hc4]; rfl) (by decide) ?_
    refine lv_aload_n hx hb dX10_many_78 rfl (lv_at hl 1 rfl) ?_
    obtain ⟨v79, hv, hF⟩ := ob hF
    refine k_getP C0 M.1 hv fl_X10_68 dX10_many_79 ?_
    refine lv_iconst (v := (1 : Int32)) hx hb dX10_many_82 (by decide) ?_
    obtain ⟨v83, hv, hF⟩ := ob hF
    refine k_ld C0 M.1 hv dX10_many_83 ?_
    obtain ⟨rfl, rfl⟩ := Prod.mk.inj (Kr _ (Option.some.inj hF).symm)
    exact rt_MI C0 M hr dX10_many_84
  have hF := oi_f hc4 hF
  by_cases hc5 : x1 = (5 : Int32)
  · have hF := oi_t hc5 hF
    refine lv_tableIn (tgt := 85) (off := 78) hx hb dX10_many_7 (by rw [hc5]; decide) (by rw [hc5]; decide) (by rw [hc5]; rfl) (by decide) ?_
    refine lv_aload_n hx hb dX10_many_85 rfl (lv_at hl 1 rfl) ?_
    obtain ⟨v86, hv, hF⟩ := ob hF
    refine k_getI C0 M.1 hv fl_X10_399 dX10_many_86 ?_
    obtain ⟨rfl, rfl⟩ := Prod.mk.inj (Kr _ (Option.some.inj hF).symm)
    exact rt_MI C0 M hr dX10_many_89
  have hF := oi_f hc5 hF
  by_cases hc6 : x1 = (6 : Int32)
  · have hF := oi_t hc6 hF
    refine lv_tableIn (tgt := 90) (off := 83) hx hb dX10_many_7 (by rw [hc6]; decide) (by rw [hc6]; decide) (by rw [hc6]; rfl) (by decide) ?_
    refine lv_aload_n hx hb dX10_many_90 rfl (lv_at hl 1 rfl) ?_
    obtain ⟨v91, hv, hF⟩ := ob hF
    refine k_getI C0 M.1 hv fl_X10_242 dX10_many_91 ?_
    obtain ⟨rfl, rfl⟩ := Prod.mk.inj (Kr _ (Option.some.inj hF).symm)
    exact rt_MI C0 M hr dX10_many_94
  have hF := oi_f hc6 hF
  by_cases hc7 : x1 = (7 : Int32)
  · have hF := oi_t hc7 hF
    refine lv_tableIn (tgt := 95) (off := 88) hx hb dX10_many_7 (by rw [hc7]; decide) (by rw [hc7]; decide) (by rw [hc7]; rfl) (by decide) ?_
    refine lv_aload_n hx hb dX10_many_95 rfl (lv_at hl 1 rfl) ?_
    obtain ⟨v96, hv, hF⟩ := ob hF
    refine k_getI C0 M.1 hv fl_X10_137 dX10_many_96 ?_
    obtain ⟨rfl, rfl⟩ := Prod.mk.inj (Kr _ (Option.some.inj hF).symm)
    exact rt_MI C0 M hr dX10_many_99
  have hF := oi_f hc7 hF
  by_cases hc8 : x1 = (8 : Int32)
  · have hF := oi_t hc8 hF
    refine lv_tableIn (tgt := 100) (off := 93) hx hb dX10_many_7 (by rw [hc8]; decide) (by rw [hc8]; decide) (by rw [hc8]; rfl) (by decide) ?_
    refine lv_iconst (v := (0 : Int32)) hx hb dX10_many_100 (by decide) ?_
    refine lv_istore_n (lv' := [(3, .int (0 : Int32)), (2, .int (0 : Int32)), (0, .ref (ad x0)), (1, .int x1)]) hx hb dX10_many_101 rfl hl (by decide) rfl (fun ls hl => ?_)
    exact Kh0 _ _ _ _ (Option.some.inj hF).symm _ _ _ M (lv_sub hl [2, 1, 0] rfl)
  have hF := oi_f hc8 hF
  refine lv_tableOut (tgt := 132) hx hb dX10_many_7 (tsw (x := x1) (n := 9) (by decide) (fun k hk => by rcases (show k = 0 ∨ k = 1 ∨ k = 2 ∨ k = 3 ∨ k = 4 ∨ k = 5 ∨ k = 6 ∨ k = 7 ∨ k = 8 by omega) with rfl | rfl | rfl | rfl | rfl | rfl | rfl | rfl | rfl <;> first | exact hc0 | exact hc1 | exact hc2 | exact hc3 | exact hc4 | exact hc5 | exact hc6 | exact hc7 | exact hc8)) (by decide) ?_
  refine lv_bipush (v := (-2 : Int32)) hx hb dX10_many_132 (by decide) ?_
  obtain ⟨rfl, rfl⟩ := Prod.mk.inj (Kr _ (Option.some.inj hF).symm)
  exact rt_MI C0 M hr dX10_many_134
set_option maxHeartbeats 4000000 in
set_option maxRecDepth 100000 in
theorem wX10_many_122 {p : Program} {l : Launch} {e : Env} {s : State} {m : MethodId} {args : Array Value} {below : List Frame} {meth : Method} {c : Code} {D : va_G} {cy : Nat → ClassId} (ad : Nat → Nat) (A : Nat → Prop) {S : MS} {S' : MS} {H : Heap} {locs : List Loc} {n0 : Nat} {r : Int32} {out : ((Nat × Int32 × Int32 × MS) ⊕ (Int32 × MS))} {ls : Array Slot} {x0 : Nat} {x3 : Int32} {z0 : Int32} {z1 : Int32} (C0 : CX p s m args meth c RX10 cX10_many 4 D cy) (M : ST D cy ad A s.heap (ZN n0 s.heap.size) S H locs) (hr : meth.sig.returnType = some .int) (hF : bX10_many_122 S x0 x3 z0 z1 = some out) (hl : lv_has ls 4 [(0, .ref (ad x0)), (3, .int x3)]) (Kr : ∀ r9, out = .inr r9 → r9 = (r, S')) (Kh0 : ∀ (y0 : Nat) (y1 : Int32) (y2 : Int32) (S2 : MS), out = .inl (y0, y1, y2, S2) → ∀ (H1 : Heap) (locs1 : List Loc) (ls1 : Array Slot), ST D cy ad A s.heap (ZN n0 s.heap.size) S2 H1 locs1 → lv_has ls1 4 [(0, .ref (ad y0)), (2, .int y1), (3, .int y2)] → W p l e rmX10_many s m args below meth c H1 locs1 0 0 (MQ below (QcM D cy ad A n0 S' (some (.int r))) args s 0 0 A) (F0 m 102 ls1 [])) : W p l e rmX10_many s m args below meth c H locs 0 0 (MQ below (QcM D cy ad A n0 S' (some (.int r))) args s 0 0 A) (F0 m 122 ls [.int z1, .int z0]) := by
  unfold bX10_many_122 at hF
  obtain ⟨hx, hb, -, hown, -, hts, -⟩ := id C0
  refine lv_iadd hx hb dX10_many_122 ?_
  obtain ⟨v123, hv, hF⟩ := ob hF
  have hv := vtI hv
  refine vtopi hv ?_
  refine lv_istore_n (lv' := [(2, .int v123), (0, .ref (ad x0)), (3, .int x3)]) hx hb dX10_many_123 rfl hl (by decide) rfl (fun ls hl => ?_)
  obtain ⟨v124, hv, hF⟩ := ob hF
  refine lv_iinc (v := v124) (lv' := [(3, .int v124), (2, .int v123), (0, .ref (ad x0))]) hx hb dX10_many_124 hl (k := 2) rfl (by rw [← vtI hv]; rfl) (by decide) rfl (fun ls hl => ?_)
  refine lv_goto (tgt := 102) hx hb dX10_many_127 (by decide) ?_
  exact Kh0 _ _ _ _ (Option.some.inj hF).symm _ _ _ M (lv_sub hl [2, 1, 0] rfl)
set_option maxHeartbeats 4000000 in
set_option maxRecDepth 100000 in
theorem wX10_many_102 {p : Program} {l : Launch} {e : Env} {s : State} {m : MethodId} {args : Array Value} {below : List Frame} {meth : Method} {c : Code} {D : va_G} {cy : Nat → ClassId} (ad : Nat → Nat) (A : Nat → Prop) {S : MS} {S' : MS} {H : Heap} {locs : List Loc} {n0 : Nat} {r : Int32} {out : ((Nat × Int32 × Int32 × MS) ⊕ (Int32 × MS))} {ls : Array Slot} {x0 : Nat} {x2 : Int32} {x3 : Int32} (C0 : CX p s m args meth c RX10 cX10_many 4 D cy) (M : ST D cy ad A s.heap (ZN n0 s.heap.size) S H locs) (hr : meth.sig.returnType = some .int) (hF : bX10_many_102 S x0 x2 x3 = some out) (hl : lv_has ls 4 [(0, .ref (ad x0)), (2, .int x2), (3, .int x3)]) (Kr : ∀ r9, out = .inr r9 → r9 = (r, S')) (Kh0 : ∀ (y0 : Nat) (y1 : Int32) (y2 : Int32) (S2 : MS), out = .inl (y0, y1, y2, S2) → ∀ (H1 : Heap) (locs1 : List Loc) (ls1 : Array Slot), ST D cy ad A s.heap (ZN n0 s.heap.size) S2 H1 locs1 → lv_has ls1 4 [(0, .ref (ad y0)), (2, .int y1), (3, .int y2)] → W p l e rmX10_many s m args below meth c H1 locs1 0 0 (MQ below (QcM D cy ad A n0 S' (some (.int r))) args s 0 0 A) (F0 m 102 ls1 [])) : W p l e rmX10_many s m args below meth c H locs 0 0 (MQ below (QcM D cy ad A n0 S' (some (.int r))) args s 0 0 A) (F0 m 102 ls []) := by
  unfold bX10_many_102 at hF
  obtain ⟨hx, hb, -, hown, -, hts, -⟩ := id C0
  refine lv_iload_n hx hb dX10_many_102 rfl (lv_at hl 2 rfl) ?_
  refine lv_iconst (v := (4 : Int32)) hx hb dX10_many_103 (by decide) ?_
  refine lv_icmp_ge (tgt := 130) hx hb dX10_many_104 (by decide) (fun hc => ?_) (fun hc => ?_)
  · have hF := oi_t hc hF
    refine lv_iload_n hx hb dX10_many_130 rfl (lv_at hl 1 rfl) ?_
    obtain ⟨rfl, rfl⟩ := Prod.mk.inj (Kr _ (Option.some.inj hF).symm)
    exact rt_MI C0 M hr dX10_many_131
  · have hF := oi_f hc hF
    refine lv_iload_n hx hb dX10_many_107 rfl (lv_at hl 1 rfl) ?_
    refine lv_aload_n hx hb dX10_many_108 rfl (lv_at hl 0 rfl) ?_
    obtain ⟨v109, hv, hF⟩ := ob hF
    refine k_getP C0 M.1 hv fl_X10_98 dX10_many_109 ?_
    refine lv_iload_n hx hb dX10_many_112 rfl (lv_at hl 2 rfl) ?_
    obtain ⟨v113, hv, hF⟩ := ob hF
    refine k_ldZ C0 M.1 hv dX10_many_113 ?_
    refine lv_if_eq (tgt := 121) hx hb dX10_many_114 (by decide) (fun hc => ?_) (fun hc => ?_)
    · have hF := oi_t hc hF
      refine lv_iconst (v := (0 : Int32)) hx hb dX10_many_121 (by decide) ?_
      exact wX10_many_122 ad A C0 M hr hF (lv_sub hl [0, 2] rfl) Kr Kh0
    · have hF := oi_f hc hF
      refine lv_iconst (v := (1 : Int32)) hx hb dX10_many_117 (by decide) ?_
      refine lv_goto (tgt := 122) hx hb dX10_many_118 (by decide) ?_
      exact wX10_many_122 ad A C0 M hr hF (lv_sub hl [0, 2] rfl) Kr Kh0
set_option maxHeartbeats 4000000 in
set_option maxRecDepth 100000 in
theorem tX10_many (l : Launch) (D : va_G) (cy : Nat → ClassId) (ad : Nat → Nat) (A : Nat → Prop) {S S' : MS} {a0 : Nat} {a1 : Int32} {r : Int32} (h : fX10_many S a0 a1 = some (r, S')) : Met l yX10_many [Cond.code yX10_many cX10_many 4 (some .int)] rmX10_many (PcR D cy ad A S [.ref (ad a0), .int a1]) (QcM D cy ad A (m_n S) S' (some (.int r))) 0 0 A := by
  refine met_M (by decide +kernel) cw_X10_many (Nat.le_of_ble_eq_true rfl) ?_
  intro p e s m args below meth c ls C0 M hr hin hl
  have hl : lv_has ls 4 [(0, .ref (ad a0)), (1, .int a1)] := hl
  have key := lim_walk (step := sX10_many) (fun (q : (Nat × Int32 × Int32 × MS)) (r9 : (Int32 × MS)) => ∀ (r : Int32) (S' : MS), r9 = (r, S') → ((∀ (y0 : Nat) (y1 : Int32) (y2 : Int32) (S2 : MS), q = (y0, y1, y2, S2) → ∀ (H1 : Heap) (locs1 : List Loc) (ls1 : Array Slot), ST D cy ad A s.heap (ZN (m_n S) s.heap.size) S2 H1 locs1 → lv_has ls1 4 [(0, .ref (ad y0)), (2, .int y1), (3, .int y2)] → W p l e rmX10_many s m args below meth c H1 locs1 0 0 (MQ below (QcM D cy ad A (m_n S) S' (some (.int r))) args s 0 0 A) (F0 m 102 ls1 [])))) ?_
  · unfold fX10_many at h
    cases hs0 : bX10_many_0 S a0 a1 with
    | none => rw [hs0] at h; cases h
    | some out =>
      rw [hs0] at h
      refine wX10_many_0 ad A C0 M hr hs0 hl (fun r9 hr9 => ?_) ?_
      · subst hr9; exact Option.some.inj h
      · intro y0 y1 y2 y3 hq; subst hq; exact (key _ _ h _ _ rfl) _ _ _ _ rfl
  · intro q r9 out hst hre hin9
    intro r S' er; subst er
    refine ?_
    · intro y0 y1 y2 y3 hq H1 locs1 ls1 M hl
      subst hq
      exact wX10_many_102 ad A C0 M hr hst hl hre (fun k0 k1 k2 k3 hk => (hin9 _ hk _ _ rfl) _ _ _ _ rfl)
set_option maxHeartbeats 4000000 in
set_option maxRecDepth 100000 in
theorem wX10_mended_20 {p : Program} {l : Launch} {e : Env} {s : State} {m : MethodId} {args : Array Value} {below : List Frame} {meth : Method} {c : Code} {D : va_G} {cy : Nat → ClassId} (ad : Nat → Nat) (A : Nat → Prop) {S : MS} {S' : MS} {H : Heap} {locs : List Loc} {n0 : Nat} {r : Int32} {ls : Array Slot} {z0 : Int32} (C0 : CX p s m args meth c RX10 cX10_mended 3 D cy) (M : ST D cy ad A s.heap (ZN n0 s.heap.size) S H locs) (hr : meth.sig.returnType = some .int) (hF : bX10_mended_20 S z0 = some (r, S')) (hl : lv_has ls 3 []) : W p l e rmX10_mended s m args below meth c H locs 0 0 (MQ below (QcM D cy ad A n0 S' (some (.int r))) args s 0 0 A) (F0 m 20 ls [.int z0]) := by
  unfold bX10_mended_20 at hF
  obtain ⟨hx, hb, -, hown, -, hts, -⟩ := id C0
  obtain ⟨rfl, rfl⟩ := Prod.mk.inj (Option.some.inj hF)
  exact rt_MI C0 M hr dX10_mended_20
set_option maxHeartbeats 4000000 in
set_option maxRecDepth 100000 in
theorem wX10_mended_0 {p : Program} {l : Launch} {e : Env} {s : State} {m : MethodId} {args : Array Value} {below : List Frame} {meth : Method} {c : Code} {D : va_G} {cy : Nat → ClassId} (ad : Nat → Nat) (A : Nat → Prop) {S : MS} {S' : MS} {H : Heap} {locs : List Loc} {n0 : Nat} {r : Int32} {ls : Array Slot} {x0 : Nat} {x1 : Int32} (C0 : CX p s m args meth c RX10 cX10_mended 3 D cy) (M : ST D cy ad A s.heap (ZN n0 s.heap.size) S H locs) (hr : meth.sig.returnType = some .int) (hF : bX10_mended_0 S x0 x1 = some (r, S')) (hl : lv_has ls 3 [(0, .ref (ad x0)), (1, .int x1)]) : W p l e rmX10_mended s m args below meth c H locs 0 0 (MQ below (QcM D cy ad A n0 S' (some (.int r))) args s 0 0 A) (F0 m 0 ls []) := by
  unfold bX10_mended_0 at hF
  obtain ⟨hx, hb, -, hown, -, hts, -⟩ := id C0
  refine lv_aload_n hx hb dX10_mended_0 rfl (lv_at hl 0 rfl) ?_
  refine lv_iload_n hx hb dX10_mended_1 rfl (lv_at hl 1 rfl) ?_
  refine lv_iconst (v := (1 : Int32)) hx hb dX10_mended_2 (by decide) ?_
  obtain ⟨_, hrec, hF⟩ := ob hF
  obtain ⟨v3, S3, hcl, hF⟩ := ob2 hF
  refine go_MI (r_V (rest := []) (As := [.int x1, .int (1 : Int32)]) C0 cb_X10_287 M.1 hrec (tX10_noAsking l D cy ad A hcl) (pre_R C0 M.1) hl dX10_mended_3 rfl (Nat.le_of_ble_eq_true rfl) ⟨rfl, rfl⟩ ⟨Nat.le_of_ble_eq_true rfl, Nat.le_of_ble_eq_true rfl⟩ ⟨Nat.le_of_ble_eq_true rfl, Nat.le_of_ble_eq_true rfl⟩ rfl) M (fun H locs M => ?_)
  refine lv_istore_n (lv' := [(2, .int v3), (0, .ref (ad x0)), (1, .int x1)]) hx hb dX10_mended_6 rfl hl (by decide) rfl (fun ls hl => ?_)
  refine lv_iload_n hx hb dX10_mended_7 rfl (lv_at hl 0 rfl) ?_
  refine lv_if_ge (tgt := 15) hx hb dX10_mended_8 (by decide) (fun hc => ?_) (fun hc => ?_)
  · have hF := oi_t hc hF
    refine lv_aload_n hx hb dX10_mended_15 rfl (lv_at hl 1 rfl) ?_
    refine lv_iload_n hx hb dX10_mended_16 rfl (lv_at hl 2 rfl) ?_
    obtain ⟨_, hrec, hF⟩ := ob hF
    obtain ⟨v17, hcl, hF⟩ := ob hF
    refine go_SI (r_V (rest := []) (As := [.int x1]) C0 cb_X10_278 M.1 hrec (tX10_mendedOf l D cy ad A hcl) (pre_R C0 M.1) hl dX10_mended_17 rfl (Nat.le_of_ble_eq_true rfl) ⟨rfl, rfl⟩ ⟨Nat.le_of_ble_eq_true rfl, Nat.le_of_ble_eq_true rfl⟩ ⟨Nat.le_of_ble_eq_true rfl, Nat.le_of_ble_eq_true rfl⟩ rfl) ?_
    exact wX10_mended_20 ad A C0 M hr hF (lv_sub hl [] rfl)
  · have hF := oi_f hc hF
    refine lv_iload_n hx hb dX10_mended_11 rfl (lv_at hl 0 rfl) ?_
    refine lv_goto (tgt := 20) hx hb dX10_mended_12 (by decide) ?_
    exact wX10_mended_20 ad A C0 M hr hF (lv_sub hl [] rfl)
set_option maxHeartbeats 4000000 in
set_option maxRecDepth 100000 in
theorem tX10_mended (l : Launch) (D : va_G) (cy : Nat → ClassId) (ad : Nat → Nat) (A : Nat → Prop) {S S' : MS} {a0 : Nat} {a1 : Int32} {r : Int32} (h : fX10_mended S a0 a1 = some (r, S')) : Met l yX10_mended [Cond.code yX10_mended cX10_mended 3 (some .int)] rmX10_mended (PcR D cy ad A S [.ref (ad a0), .int a1]) (QcM D cy ad A (m_n S) S' (some (.int r))) 0 0 A := by
  refine met_M (by decide +kernel) cw_X10_mended (Nat.le_of_ble_eq_true rfl) ?_
  intro p e s m args below meth c ls C0 M hr hin hl
  have hl : lv_has ls 3 [(0, .ref (ad a0)), (1, .int a1)] := hl
  exact wX10_mended_0 ad A C0 M hr h hl
set_option maxHeartbeats 4000000 in
set_option maxRecDepth 100000 in
theorem wX10_night_0 {p : Program} {l : Launch} {e : Env} {s : State} {m : MethodId} {args : Array Value} {below : List Frame} {meth : Method} {c : Code} {D : va_G} {cy : Nat → ClassId} (ad : Nat → Nat) (A : Nat → Prop) {S : MS} {S' : MS} {H : Heap} {locs : List Loc} {n0 : Nat} {r : Int32} {out : (((Nat × Int32 × MS) ⊕ (Nat × Int32 × Int32 × MS)) ⊕ (Int32 × MS))} {ls : Array Slot} {x0 : Nat} (C0 : CX p s m args meth c RX10 cX10_night 3 D cy) (M : ST D cy ad A s.heap (ZN n0 s.heap.size) S H locs) (hr : meth.sig.returnType = some .int) (hF : bX10_night_0 S x0 = some out) (hl : lv_has ls 3 [(0, .ref (ad x0))]) (Kr : ∀ r9, out = .inr r9 → r9 = (r, S')) (Kh0 : ∀ (y0 : Nat) (y1 : Int32) (S2 : MS), out = .inl (.inl (y0, y1, S2)) → ∀ (H1 : Heap) (locs1 : List Loc) (ls1 : Array Slot), ST D cy ad A s.heap (ZN n0 s.heap.size) S2 H1 locs1 → lv_has ls1 3 [(0, .ref (ad y0)), (1, .int y1)] → W p l e rmX10_night s m args below meth c H1 locs1 0 0 (MQ below (QcM D cy ad A n0 S' (some (.int r))) args s 0 0 A) (F0 m 2 ls1 [])) (Kh1 : ∀ (y0 : Nat) (y1 : Int32) (y2 : Int32) (S2 : MS), out = .inl (.inr (y0, y1, y2, S2)) → ∀ (H1 : Heap) (locs1 : List Loc) (ls1 : Array Slot), ST D cy ad A s.heap (ZN n0 s.heap.size) S2 H1 locs1 → lv_has ls1 3 [(0, .ref (ad y0)), (1, .int y1), (2, .int y2)] → W p l e rmX10_night s m args below meth c H1 locs1 0 0 (MQ below (QcM D cy ad A n0 S' (some (.int r))) args s 0 0 A) (F0 m 70 ls1 [])) : W p l e rmX10_night s m args below meth c H locs 0 0 (MQ below (QcM D cy ad A n0 S' (some (.int r))) args s 0 0 A) (F0 m 0 ls []) := by
  unfold bX10_night_0 at hF
  obtain ⟨hx, hb, -, hown, -, hts, -⟩ := id C0
  refine lv_iconst (v := (0 : Int32)) hx hb dX10_night_0 (by decide) ?_
  refine lv_istore_n (lv' := [(1, .int (0 : Int32)), (0, .ref (ad x0))]) hx hb dX10_night_1 rfl hl (by decide) rfl (fun ls hl => ?_)
  exact Kh0 _ _ _ (Option.some.inj hF).symm _ _ _ M (lv_sub hl [1, 0] rfl)
set_option maxHeartbeats 4000000 in
set_option maxRecDepth 100000 in
theorem wX10_night_2 {p : Program} {l : Launch} {e : Env} {s : State} {m : MethodId} {args : Array Value} {below : List Frame} {meth : Method} {c : Code} {D : va_G} {cy : Nat → ClassId} (ad : Nat → Nat) (A : Nat → Prop) {S : MS} {S' : MS} {H : Heap} {locs : List Loc} {n0 : Nat} {r : Int32} {out : (((Nat × Int32 × MS) ⊕ (Nat × Int32 × Int32 × MS)) ⊕ (Int32 × MS))} {ls : Array Slot} {x0 : Nat} {x1 : Int32} (C0 : CX p s m args meth c RX10 cX10_night 3 D cy) (M : ST D cy ad A s.heap (ZN n0 s.heap.size) S H locs) (hr : meth.sig.returnType = some .int) (hF : bX10_night_2 S x0 x1 = some out) (hl : lv_has ls 3 [(0, .ref (ad x0)), (1, .int x1)]) (Kr : ∀ r9, out = .inr r9 → r9 = (r, S')) (Kh0 : ∀ (y0 : Nat) (y1 : Int32) (S2 : MS), out = .inl (.inl (y0, y1, S2)) → ∀ (H1 : Heap) (locs1 : List Loc) (ls1 : Array Slot), ST D cy ad A s.heap (ZN n0 s.heap.size) S2 H1 locs1 → lv_has ls1 3 [(0, .ref (ad y0)), (1, .int y1)] → W p l e rmX10_night s m args below meth c H1 locs1 0 0 (MQ below (QcM D cy ad A n0 S' (some (.int r))) args s 0 0 A) (F0 m 2 ls1 [])) (Kh1 : ∀ (y0 : Nat) (y1 : Int32) (y2 : Int32) (S2 : MS), out = .inl (.inr (y0, y1, y2, S2)) → ∀ (H1 : Heap) (locs1 : List Loc) (ls1 : Array Slot), ST D cy ad A s.heap (ZN n0 s.heap.size) S2 H1 locs1 → lv_has ls1 3 [(0, .ref (ad y0)), (1, .int y1), (2, .int y2)] → W p l e rmX10_night s m args below meth c H1 locs1 0 0 (MQ below (QcM D cy ad A n0 S' (some (.int r))) args s 0 0 A) (F0 m 70 ls1 [])) : W p l e rmX10_night s m args below meth c H locs 0 0 (MQ below (QcM D cy ad A n0 S' (some (.int r))) args s 0 0 A) (F0 m 2 ls []) := by
  unfold bX10_night_2 at hF
  obtain ⟨hx, hb, -, hown, -, hts, -⟩ := id C0
  refine lv_iload_n hx hb dX10_night_2 rfl (lv_at hl 1 rfl) ?_
  refine lv_aload_n hx hb dX10_night_3 rfl (lv_at hl 0 rfl) ?_
  obtain ⟨v4, hv, hF⟩ := ob hF
  refine k_getP C0 M.1 hv fl_X10_68 dX10_night_4 ?_
  refine lv_iconst (v := (1 : Int32)) hx hb dX10_night_7 (by decide) ?_
  obtain ⟨v8, hv, hF⟩ := ob hF
  refine k_ld C0 M.1 hv dX10_night_8 ?_
  refine lv_icmp_ge (tgt := 112) hx hb dX10_night_9 (by decide) (fun hc => ?_) (fun hc => ?_)
  · have hF := oi_t hc hF
    refine lv_aload_n hx hb dX10_night_112 rfl (lv_at hl 0 rfl) ?_
    obtain ⟨v113, hv, hF⟩ := ob hF
    refine k_getP C0 M.1 hv fl_X10_68 dX10_night_113 ?_
    refine lv_iconst (v := (0 : Int32)) hx hb dX10_night_116 (by decide) ?_
    refine lv_aload_n hx hb dX10_night_117 rfl (lv_at hl 0 rfl) ?_
    obtain ⟨v118, hv, hF⟩ := ob hF
    refine k_getP C0 M.1 hv fl_X10_68 dX10_night_118 ?_
    refine lv_iconst (v := (1 : Int32)) hx hb dX10_night_121 (by decide) ?_
    obtain ⟨v122, hv, hF⟩ := ob hF
    refine k_ld C0 M.1 hv dX10_night_122 ?_
    obtain ⟨S123, hv, hF⟩ := ob hF
    refine k_st C0 M hv dX10_night_123 (fun H locs M => ?_)
    refine lv_aload_n hx hb dX10_night_124 rfl (lv_at hl 0 rfl) ?_
    obtain ⟨v125, hv, hF⟩ := ob hF
    refine k_getP C0 M.1 hv fl_X10_68 dX10_night_125 ?_
    refine lv_iconst (v := (1 : Int32)) hx hb dX10_night_128 (by decide) ?_
    refine lv_iconst (v := (0 : Int32)) hx hb dX10_night_129 (by decide) ?_
    obtain ⟨S130, hv, hF⟩ := ob hF
    refine k_st C0 M hv dX10_night_130 (fun H locs M => ?_)
    refine lv_aload_n hx hb dX10_night_131 rfl (lv_at hl 0 rfl) ?_
    obtain ⟨v132, hv, hF⟩ := ob hF
    refine k_getP C0 M.1 hv fl_X10_68 dX10_night_132 ?_
    refine lv_iconst (v := (0 : Int32)) hx hb dX10_night_135 (by decide) ?_
    obtain ⟨v136, hv, hF⟩ := ob hF
    refine k_ld C0 M.1 hv dX10_night_136 ?_
    obtain ⟨rfl, rfl⟩ := Prod.mk.inj (Kr _ (Option.some.inj hF).symm)
    exact rt_MI C0 M hr dX10_night_137
  · have hF := oi_f hc hF
    refine lv_aload_n hx hb dX10_night_12 rfl (lv_at hl 0 rfl) ?_
    obtain ⟨v13, hv, hF⟩ := ob hF
    refine k_getP C0 M.1 hv fl_X10_71 dX10_night_13 ?_
    refine lv_iload_n hx hb dX10_night_16 rfl (lv_at hl 1 rfl) ?_
    refine lv_aload_n hx hb dX10_night_17 rfl (lv_at hl 0 rfl) ?_
    obtain ⟨v18, hv, hF⟩ := ob hF
    refine k_getP C0 M.1 hv fl_X10_71 dX10_night_18 ?_
    refine lv_iconst (v := (5 : Int32)) hx hb dX10_night_21 (by decide) ?_
    refine lv_iload_n hx hb dX10_night_22 rfl (lv_at hl 1 rfl) ?_
    refine lv_iadd hx hb dX10_night_23 ?_
    obtain ⟨v24, hv, hF⟩ := ob hF
    refine k_ld C0 M.1 hv dX10_night_24 ?_
    obtain ⟨S25, hv, hF⟩ := ob hF
    refine k_st C0 M hv dX10_night_25 (fun H locs M => ?_)
    refine lv_aload_n hx hb dX10_night_26 rfl (lv_at hl 0 rfl) ?_
    obtain ⟨v27, hv, hF⟩ := ob hF
    refine k_getP C0 M.1 hv fl_X10_74 dX10_night_27 ?_
    refine lv_iload_n hx hb dX10_night_30 rfl (lv_at hl 1 rfl) ?_
    refine lv_aload_n hx hb dX10_night_31 rfl (lv_at hl 0 rfl) ?_
    obtain ⟨v32, hv, hF⟩ := ob hF
    refine k_getP C0 M.1 hv fl_X10_74 dX10_night_32 ?_
    refine lv_iconst (v := (5 : Int32)) hx hb dX10_night_35 (by decide) ?_
    refine lv_iload_n hx hb dX10_night_36 rfl (lv_at hl 1 rfl) ?_
    refine lv_iadd hx hb dX10_night_37 ?_
    obtain ⟨v38, hv, hF⟩ := ob hF
    refine k_ld C0 M.1 hv dX10_night_38 ?_
    obtain ⟨S39, hv, hF⟩ := ob hF
    refine k_st C0 M hv dX10_night_39 (fun H locs M => ?_)
    refine lv_aload_n hx hb dX10_night_40 rfl (lv_at hl 0 rfl) ?_
    obtain ⟨v41, hv, hF⟩ := ob hF
    refine k_getP C0 M.1 hv fl_X10_77 dX10_night_41 ?_
    refine lv_iload_n hx hb dX10_night_44 rfl (lv_at hl 1 rfl) ?_
    refine lv_aload_n hx hb dX10_night_45 rfl (lv_at hl 0 rfl) ?_
    obtain ⟨v46, hv, hF⟩ := ob hF
    refine k_getP C0 M.1 hv fl_X10_77 dX10_night_46 ?_
    refine lv_iconst (v := (5 : Int32)) hx hb dX10_night_49 (by decide) ?_
    refine lv_iload_n hx hb dX10_night_50 rfl (lv_at hl 1 rfl) ?_
    refine lv_iadd hx hb dX10_night_51 ?_
    obtain ⟨v52, hv, hF⟩ := ob hF
    refine k_ld C0 M.1 hv dX10_night_52 ?_
    obtain ⟨S53, hv, hF⟩ := ob hF
    refine k_st C0 M hv dX10_night_53 (fun H locs M => ?_)
    refine lv_aload_n hx hb dX10_night_54 rfl (lv_at hl 0 rfl) ?_
    obtain ⟨v55, hv, hF⟩ := ob hF
    refine k_getP C0 M.1 hv fl_X10_80 dX10_night_55 ?_
    refine lv_iload_n hx hb dX10_night_58 rfl (lv_at hl 1 rfl) ?_
    refine lv_aload_n hx hb dX10_night_59 rfl (lv_at hl 0 rfl) ?_
    obtain ⟨v60, hv, hF⟩ := ob hF
    refine k_getP C0 M.1 hv fl_X10_80 dX10_night_60 ?_
    refine lv_iconst (v := (5 : Int32)) hx hb dX10_night_63 (by decide) ?_
    refine lv_iload_n hx hb dX10_night_64 rfl (lv_at hl 1 rfl) ?_
    refine lv_iadd hx hb dX10_night_65 ?_
    obtain ⟨v66, hv, hF⟩ := ob hF
    refine k_ld C0 M.1 hv dX10_night_66 ?_
    obtain ⟨S67, hv, hF⟩ := ob hF
    refine k_st C0 M hv dX10_night_67 (fun H locs M => ?_)
    refine lv_iconst (v := (0 : Int32)) hx hb dX10_night_68 (by decide) ?_
    refine lv_istore_n (lv' := [(2, .int (0 : Int32)), (0, .ref (ad x0)), (1, .int x1)]) hx hb dX10_night_69 rfl hl (by decide) rfl (fun ls hl => ?_)
    exact Kh1 _ _ _ _ (Option.some.inj hF).symm _ _ _ M (lv_sub hl [1, 2, 0] rfl)
set_option maxHeartbeats 4000000 in
set_option maxRecDepth 100000 in
theorem wX10_night_70 {p : Program} {l : Launch} {e : Env} {s : State} {m : MethodId} {args : Array Value} {below : List Frame} {meth : Method} {c : Code} {D : va_G} {cy : Nat → ClassId} (ad : Nat → Nat) (A : Nat → Prop) {S : MS} {S' : MS} {H : Heap} {locs : List Loc} {n0 : Nat} {r : Int32} {out : (((Nat × Int32 × MS) ⊕ (Nat × Int32 × Int32 × MS)) ⊕ (Int32 × MS))} {ls : Array Slot} {x0 : Nat} {x1 : Int32} {x2 : Int32} (C0 : CX p s m args meth c RX10 cX10_night 3 D cy) (M : ST D cy ad A s.heap (ZN n0 s.heap.size) S H locs) (hr : meth.sig.returnType = some .int) (hF : bX10_night_70 S x0 x1 x2 = some out) (hl : lv_has ls 3 [(0, .ref (ad x0)), (1, .int x1), (2, .int x2)]) (Kr : ∀ r9, out = .inr r9 → r9 = (r, S')) (Kh0 : ∀ (y0 : Nat) (y1 : Int32) (S2 : MS), out = .inl (.inl (y0, y1, S2)) → ∀ (H1 : Heap) (locs1 : List Loc) (ls1 : Array Slot), ST D cy ad A s.heap (ZN n0 s.heap.size) S2 H1 locs1 → lv_has ls1 3 [(0, .ref (ad y0)), (1, .int y1)] → W p l e rmX10_night s m args below meth c H1 locs1 0 0 (MQ below (QcM D cy ad A n0 S' (some (.int r))) args s 0 0 A) (F0 m 2 ls1 [])) (Kh1 : ∀ (y0 : Nat) (y1 : Int32) (y2 : Int32) (S2 : MS), out = .inl (.inr (y0, y1, y2, S2)) → ∀ (H1 : Heap) (locs1 : List Loc) (ls1 : Array Slot), ST D cy ad A s.heap (ZN n0 s.heap.size) S2 H1 locs1 → lv_has ls1 3 [(0, .ref (ad y0)), (1, .int y1), (2, .int y2)] → W p l e rmX10_night s m args below meth c H1 locs1 0 0 (MQ below (QcM D cy ad A n0 S' (some (.int r))) args s 0 0 A) (F0 m 70 ls1 [])) : W p l e rmX10_night s m args below meth c H locs 0 0 (MQ below (QcM D cy ad A n0 S' (some (.int r))) args s 0 0 A) (F0 m 70 ls []) := by
  unfold bX10_night_70 at hF
  obtain ⟨hx, hb, -, hown, -, hts, -⟩ := id C0
  refine lv_iload_n hx hb dX10_night_70 rfl (lv_at hl 2 rfl) ?_
  refine lv_bipush (v := (12 : Int32)) hx hb dX10_night_71 (by decide) ?_
  refine lv_icmp_ge (tgt := 106) hx hb dX10_night_73 (by decide) (fun hc => ?_) (fun hc => ?_)
  · have hF := oi_t hc hF
    obtain ⟨v106, hv, hF⟩ := ob hF
    refine lv_iinc (v := v106) (lv' := [(1, .int v106), (0, .ref (ad x0)), (2, .int x2)]) hx hb dX10_night_106 hl (k := 1) rfl (by rw [← vtI hv]; rfl) (by decide) rfl (fun ls hl => ?_)
    refine lv_goto (tgt := 2) hx hb dX10_night_109 (by decide) ?_
    exact Kh0 _ _ _ (Option.some.inj hF).symm _ _ _ M (lv_sub hl [1, 0] rfl)
  · have hF := oi_f hc hF
    refine lv_aload_n hx hb dX10_night_76 rfl (lv_at hl 0 rfl) ?_
    obtain ⟨v77, hv, hF⟩ := ob hF
    refine k_getP C0 M.1 hv fl_X10_83 dX10_night_77 ?_
    refine lv_bipush (v := (12 : Int32)) hx hb dX10_night_80 (by decide) ?_
    refine lv_iload_n hx hb dX10_night_82 rfl (lv_at hl 1 rfl) ?_
    refine lv_imul hx hb dX10_night_83 ?_
    refine lv_iload_n hx hb dX10_night_84 rfl (lv_at hl 2 rfl) ?_
    refine lv_iadd hx hb dX10_night_85 ?_
    refine lv_aload_n hx hb dX10_night_86 rfl (lv_at hl 0 rfl) ?_
    obtain ⟨v87, hv, hF⟩ := ob hF
    refine k_getP C0 M.1 hv fl_X10_83 dX10_night_87 ?_
    refine lv_bipush (v := (12 : Int32)) hx hb dX10_night_90 (by decide) ?_
    refine lv_iconst (v := (5 : Int32)) hx hb dX10_night_92 (by decide) ?_
    refine lv_iload_n hx hb dX10_night_93 rfl (lv_at hl 1 rfl) ?_
    refine lv_iadd hx hb dX10_night_94 ?_
    refine lv_imul hx hb dX10_night_95 ?_
    refine lv_iload_n hx hb dX10_night_96 rfl (lv_at hl 2 rfl) ?_
    refine lv_iadd hx hb dX10_night_97 ?_
    obtain ⟨v98, hv, hF⟩ := ob hF
    refine k_ld C0 M.1 hv dX10_night_98 ?_
    obtain ⟨S99, hv, hF⟩ := ob hF
    refine k_st C0 M hv dX10_night_99 (fun H locs M => ?_)
    obtain ⟨v100, hv, hF⟩ := ob hF
    refine lv_iinc (v := v100) (lv' := [(2, .int v100), (0, .ref (ad x0)), (1, .int x1)]) hx hb dX10_night_100 hl (k := 2) rfl (by rw [← vtI hv]; rfl) (by decide) rfl (fun ls hl => ?_)
    refine lv_goto (tgt := 70) hx hb dX10_night_103 (by decide) ?_
    exact Kh1 _ _ _ _ (Option.some.inj hF).symm _ _ _ M (lv_sub hl [1, 2, 0] rfl)
set_option maxHeartbeats 4000000 in
set_option maxRecDepth 100000 in
theorem tX10_night (l : Launch) (D : va_G) (cy : Nat → ClassId) (ad : Nat → Nat) (A : Nat → Prop) {S S' : MS} {a0 : Nat} {r : Int32} (h : fX10_night S a0 = some (r, S')) : Met l yX10_night [Cond.code yX10_night cX10_night 3 (some .int)] rmX10_night (PcR D cy ad A S [.ref (ad a0)]) (QcM D cy ad A (m_n S) S' (some (.int r))) 0 0 A := by
  refine met_M (by decide +kernel) cw_X10_night (Nat.le_of_ble_eq_true rfl) ?_
  intro p e s m args below meth c ls C0 M hr hin hl
  have hl : lv_has ls 3 [(0, .ref (ad a0))] := hl
  have key := lim_walk (step := sX10_night) (fun (q : ((Nat × Int32 × MS) ⊕ (Nat × Int32 × Int32 × MS))) (r9 : (Int32 × MS)) => ∀ (r : Int32) (S' : MS), r9 = (r, S') → ((∀ (y0 : Nat) (y1 : Int32) (S2 : MS), q = (.inl (y0, y1, S2)) → ∀ (H1 : Heap) (locs1 : List Loc) (ls1 : Array Slot), ST D cy ad A s.heap (ZN (m_n S) s.heap.size) S2 H1 locs1 → lv_has ls1 3 [(0, .ref (ad y0)), (1, .int y1)] → W p l e rmX10_night s m args below meth c H1 locs1 0 0 (MQ below (QcM D cy ad A (m_n S) S' (some (.int r))) args s 0 0 A) (F0 m 2 ls1 [])) ∧ (∀ (y0 : Nat) (y1 : Int32) (y2 : Int32) (S2 : MS), q = (.inr (y0, y1, y2, S2)) → ∀ (H1 : Heap) (locs1 : List Loc) (ls1 : Array Slot), ST D cy ad A s.heap (ZN (m_n S) s.heap.size) S2 H1 locs1 → lv_has ls1 3 [(0, .ref (ad y0)), (1, .int y1), (2, .int y2)] → W p l e rmX10_night s m args below meth c H1 locs1 0 0 (MQ below (QcM D cy ad A (m_n S) S' (some (.int r))) args s 0 0 A) (F0 m 70 ls1 [])))) ?_
  · unfold fX10_night at h
    cases hs0 : bX10_night_0 S a0 with
    | none => rw [hs0] at h; cases h
    | some out =>
      rw [hs0] at h
      refine wX10_night_0 ad A C0 M hr hs0 hl (fun r9 hr9 => ?_) ?_ ?_
      · subst hr9; exact Option.some.inj h
      · intro y0 y1 y2 hq; subst hq; exact (key _ _ h _ _ rfl).1 _ _ _ rfl
      · intro y0 y1 y2 y3 hq; subst hq; exact (key _ _ h _ _ rfl).2 _ _ _ _ rfl
  · intro q r9 out hst hre hin9
    intro r S' er; subst er
    refine ⟨?_, ?_⟩
    · intro y0 y1 y2 hq H1 locs1 ls1 M hl
      subst hq
      exact wX10_night_2 ad A C0 M hr hst hl hre (fun k0 k1 k2 hk => (hin9 _ hk _ _ rfl).1 _ _ _ rfl) (fun k0 k1 k2 k3 hk => (hin9 _ hk _ _ rfl).2 _ _ _ _ rfl)
    · intro y0 y1 y2 y3 hq H1 locs1 ls1 M hl
      subst hq
      exact wX10_night_70 ad A C0 M hr hst hl hre (fun k0 k1 k2 hk => (hin9 _ hk _ _ rfl).1 _ _ _ rfl) (fun k0 k1 k2 k3 hk => (hin9 _ hk _ _ rfl).2 _ _ _ _ rfl)
set_option maxHeartbeats 4000000 in
set_option maxRecDepth 100000 in
theorem wX10_place_33 {p : Program} {l : Launch} {e : Env} {s : State} {m : MethodId} {args : Array Value} {below : List Frame} {meth : Method} {c : Code} {D : va_G} {cy : Nat → ClassId} (ad : Nat → Nat) (A : Nat → Prop) {S : MS} {r : Int32} {ls : Array Slot} {z0 : Int32} (C0 : CX p s m args meth c RX10 cX10_place 3 D cy) (M : MW D cy ad A S s.heap) (hr : meth.sig.returnType = some .int) (hF : bX10_place_33 S z0 = some r) (hl : lv_has ls 3 []) : W p l e rmX10_place s m args below meth c s.heap [] 0 0 (MQ below (QcS (some (.int r))) args s 0 0 (fun _ => False)) (F0 m 33 ls [.int z0]) := by
  unfold bX10_place_33 at hF
  obtain ⟨hx, hb, -, hown, -, hts, -⟩ := id C0
  obtain rfl := (Option.some.inj hF)
  exact rt_SI C0 hr dX10_place_33
set_option maxHeartbeats 4000000 in
set_option maxRecDepth 100000 in
theorem wX10_place_0 {p : Program} {l : Launch} {e : Env} {s : State} {m : MethodId} {args : Array Value} {below : List Frame} {meth : Method} {c : Code} {D : va_G} {cy : Nat → ClassId} (ad : Nat → Nat) (A : Nat → Prop) {S : MS} {r : Int32} {ls : Array Slot} {x0 : Nat} {x1 : Int32} {x2 : Int32} (C0 : CX p s m args meth c RX10 cX10_place 3 D cy) (M : MW D cy ad A S s.heap) (hr : meth.sig.returnType = some .int) (hF : bX10_place_0 S x0 x1 x2 = some r) (hl : lv_has ls 3 [(0, .ref (ad x0)), (1, .int x1), (2, .int x2)]) : W p l e rmX10_place s m args below meth c s.heap [] 0 0 (MQ below (QcS (some (.int r))) args s 0 0 (fun _ => False)) (F0 m 0 ls []) := by
  unfold bX10_place_0 at hF
  obtain ⟨hx, hb, -, hown, -, hts, -⟩ := id C0
  refine lv_aload_n hx hb dX10_place_0 rfl (lv_at hl 0 rfl) ?_
  refine lv_iload_n hx hb dX10_place_1 rfl (lv_at hl 1 rfl) ?_
  obtain ⟨_, hrec, hF⟩ := ob hF
  obtain ⟨v2, hcl, hF⟩ := ob hF
  refine go_SI (r_V (rest := []) (As := [.int x1]) C0 cb_X10_186 M hrec (tX10_noPost l D cy ad A hcl) (pre_R C0 M) hl dX10_place_2 rfl (Nat.le_of_ble_eq_true rfl) ⟨rfl, rfl⟩ ⟨Nat.le_of_ble_eq_true rfl, Nat.le_of_ble_eq_true rfl⟩ ⟨Nat.le_of_ble_eq_true rfl, Nat.le_of_ble_eq_true rfl⟩ rfl) ?_
  refine lv_if_eq (tgt := 10) hx hb dX10_place_5 (by decide) (fun hc => ?_) (fun hc => ?_)
  · have hF := oi_t hc hF
    refine lv_iload_n hx hb dX10_place_10 rfl (lv_at hl 2 rfl) ?_
    refine lv_i2l (v := (x2.toInt64)) hx hb dX10_place_11 rfl ?_
    refine lv_lconst (v := (0 : Int64)) hx hb dX10_place_12 (by decide) ?_
    refine lv_ldc2 (v := (99 : Int64)) hx hb hown (hts _ (uw_of 1269 (by decide +kernel) rfl)) dX10_place_13 ?_
    obtain ⟨v16, hcl, hF⟩ := ob hF
    refine go_SI (r_S (rest := []) (As := [.long (x2.toInt64), .long (0 : Int64), .long (99 : Int64)]) C0 cb_X10_156 (tX10_in l D cy ad hcl) (pre_S C0) hl dX10_place_16 rfl (Nat.le_of_ble_eq_true rfl) ⟨rfl, rfl⟩ ⟨Nat.le_of_ble_eq_true rfl, Nat.le_of_ble_eq_true rfl⟩ ⟨Nat.le_of_ble_eq_true rfl, Nat.le_of_ble_eq_true rfl⟩ rfl) ?_
    refine lv_if_eq (tgt := 31) hx hb dX10_place_19 (by decide) (fun hc => ?_) (fun hc => ?_)
    · have hF := oi_t hc hF
      refine lv_bipush (v := (-2 : Int32)) hx hb dX10_place_31 (by decide) ?_
      exact wX10_place_33 ad A C0 M hr hF (lv_sub hl [] rfl)
    · have hF := oi_f hc hF
      refine lv_aload_n hx hb dX10_place_22 rfl (lv_at hl 0 rfl) ?_
      refine lv_iload_n hx hb dX10_place_23 rfl (lv_at hl 1 rfl) ?_
      refine lv_iload_n hx hb dX10_place_24 rfl (lv_at hl 2 rfl) ?_
      obtain ⟨_, hrec, hF⟩ := ob hF
      obtain ⟨v25, hcl, hF⟩ := ob hF
      refine go_SI (r_V (rest := []) (As := [.int x1, .int x2]) C0 cb_X10_192 M hrec (tX10_placeOf l D cy ad A hcl) (pre_R C0 M) hl dX10_place_25 rfl (Nat.le_of_ble_eq_true rfl) ⟨rfl, rfl⟩ ⟨Nat.le_of_ble_eq_true rfl, Nat.le_of_ble_eq_true rfl⟩ ⟨Nat.le_of_ble_eq_true rfl, Nat.le_of_ble_eq_true rfl⟩ rfl) ?_
      refine lv_goto (tgt := 33) hx hb dX10_place_28 (by decide) ?_
      exact wX10_place_33 ad A C0 M hr hF (lv_sub hl [] rfl)
  · have hF := oi_f hc hF
    refine lv_iconst (v := (-1 : Int32)) hx hb dX10_place_8 (by decide) ?_
    obtain rfl := (Option.some.inj hF)
    exact rt_SI C0 hr dX10_place_9
set_option maxHeartbeats 4000000 in
set_option maxRecDepth 100000 in
theorem tX10_place (l : Launch) (D : va_G) (cy : Nat → ClassId) (ad : Nat → Nat) (A : Nat → Prop) {S : MS} {a0 : Nat} {a1 : Int32} {a2 : Int32} {r : Int32} (h : fX10_place S a0 a1 a2 = some r) : Met l yX10_place [Cond.code yX10_place cX10_place 3 (some .int)] rmX10_place (PcR D cy ad A S [.ref (ad a0), .int a1, .int a2]) (QcS (some (.int r))) 0 0 (fun _ => False) := by
  refine met_R (by decide +kernel) cw_X10_place (Nat.le_of_ble_eq_true rfl) ?_
  intro p e s m args below meth c ls C0 M hr hl
  have hl : lv_has ls 3 [(0, .ref (ad a0)), (1, .int a1), (2, .int a2)] := hl
  exact wX10_place_0 ad A C0 M hr h hl
set_option maxHeartbeats 4000000 in
set_option maxRecDepth 100000 in
theorem wX10_post_63 {p : Program} {l : Launch} {e : Env} {s : State} {m : MethodId} {args : Array Value} {below : List Frame} {meth : Method} {c : Code} {D : va_G} {cy : Nat → ClassId} (ad : Nat → Nat) (A : Nat → Prop) {S : MS} {S' : MS} {H : Heap} {locs : List Loc} {n0 : Nat} {r : Int32} {ls : Array Slot} (C0 : CX p s m args meth c RX10 cX10_post 7 D cy) (M : ST D cy ad A s.heap (ZN n0 s.heap.size) S H locs) (hr : meth.sig.returnType = some .int) (hF : bX10_post_63 S = some (r, S')) (hl : lv_has ls 7 []) : W p l e rmX10_post s m args below meth c H locs 0 0 (MQ below (QcM D cy ad A n0 S' (some (.int r))) args s 0 0 A) (F0 m 63 ls []) := by
  unfold bX10_post_63 at hF
  obtain ⟨hx, hb, -, hown, -, hts, -⟩ := id C0
  refine lv_bipush (v := (-2 : Int32)) hx hb dX10_post_63 (by decide) ?_
  obtain ⟨rfl, rfl⟩ := Prod.mk.inj (Option.some.inj hF)
  exact rt_MI C0 M hr dX10_post_65
set_option maxHeartbeats 4000000 in
set_option maxRecDepth 100000 in
theorem wX10_post_0 {p : Program} {l : Launch} {e : Env} {s : State} {m : MethodId} {args : Array Value} {below : List Frame} {meth : Method} {c : Code} {D : va_G} {cy : Nat → ClassId} (ad : Nat → Nat) (A : Nat → Prop) {S : MS} {S' : MS} {H : Heap} {locs : List Loc} {n0 : Nat} {r : Int32} {ls : Array Slot} {x0 : Nat} {x1 : Int32} {x2 : Int32} {x3 : Int32} {x4 : Int32} {x5 : Int32} {x6 : Int32} (C0 : CX p s m args meth c RX10 cX10_post 7 D cy) (M : ST D cy ad A s.heap (ZN n0 s.heap.size) S H locs) (hr : meth.sig.returnType = some .int) (hF : bX10_post_0 S x0 x1 x2 x3 x4 x5 x6 = some (r, S')) (hl : lv_has ls 7 [(0, .ref (ad x0)), (1, .int x1), (2, .int x2), (3, .int x3), (4, .int x4), (5, .int x5), (6, .int x6)]) : W p l e rmX10_post s m args below meth c H locs 0 0 (MQ below (QcM D cy ad A n0 S' (some (.int r))) args s 0 0 A) (F0 m 0 ls []) := by
  unfold bX10_post_0 at hF
  obtain ⟨hx, hb, -, hown, -, hts, -⟩ := id C0
  refine lv_iload_n hx hb dX10_post_0 rfl (lv_at hl 1 rfl) ?_
  refine lv_i2l (v := (x1.toInt64)) hx hb dX10_post_1 rfl ?_
  refine lv_lconst (v := (0 : Int64)) hx hb dX10_post_2 (by decide) ?_
  refine lv_ldc2 (v := (2 : Int64)) hx hb hown (hts _ (uw_of 1250 (by decide +kernel) rfl)) dX10_post_3 ?_
  obtain ⟨v6, hcl, hF⟩ := ob hF
  refine go_SI (r_S (rest := []) (As := [.long (x1.toInt64), .long (0 : Int64), .long (2 : Int64)]) C0 cb_X10_156 (tX10_in l D cy ad hcl) (pre_S C0) hl dX10_post_6 rfl (Nat.le_of_ble_eq_true rfl) ⟨rfl, rfl⟩ ⟨Nat.le_of_ble_eq_true rfl, Nat.le_of_ble_eq_true rfl⟩ ⟨Nat.le_of_ble_eq_true rfl, Nat.le_of_ble_eq_true rfl⟩ rfl) ?_
  refine lv_if_eq (tgt := 63) hx hb dX10_post_9 (by decide) (fun hc => ?_) (fun hc => ?_)
  · have hF := oi_t hc hF
    exact wX10_post_63 ad A C0 M hr hF (lv_sub hl [] rfl)
  · have hF := oi_f hc hF
    refine lv_iload_n hx hb dX10_post_12 rfl (lv_at hl 2 rfl) ?_
    refine lv_iload_n hx hb dX10_post_13 rfl (lv_at hl 3 rfl) ?_
    obtain ⟨v14, hcl, hF⟩ := ob hF
    refine go_SI (r_S (rest := []) (As := [.int x2, .int x3]) C0 cb_X10_164 (tX10_isPlace l D cy ad hcl) (pre_S C0) hl dX10_post_14 rfl (Nat.le_of_ble_eq_true rfl) ⟨rfl, rfl⟩ ⟨Nat.le_of_ble_eq_true rfl, Nat.le_of_ble_eq_true rfl⟩ ⟨Nat.le_of_ble_eq_true rfl, Nat.le_of_ble_eq_true rfl⟩ rfl) ?_
    refine lv_if_eq (tgt := 63) hx hb dX10_post_17 (by decide) (fun hc => ?_) (fun hc => ?_)
    · have hF := oi_t hc hF
      exact wX10_post_63 ad A C0 M hr hF (lv_sub hl [] rfl)
    · have hF := oi_f hc hF
      refine lv_iload hx hb dX10_post_20 (lv_at hl 4 rfl) ?_
      refine lv_i2l (v := (x4.toInt64)) hx hb dX10_post_22 rfl ?_
      refine lv_lconst (v := (0 : Int64)) hx hb dX10_post_23 (by decide) ?_
      refine lv_ldc2 (v := (3000 : Int64)) hx hb hown (hts _ (uw_of 1258 (by decide +kernel) rfl)) dX10_post_24 ?_
      obtain ⟨v27, hcl, hF⟩ := ob hF
      refine go_SI (r_S (rest := []) (As := [.long (x4.toInt64), .long (0 : Int64), .long (3000 : Int64)]) C0 cb_X10_156 (tX10_in l D cy ad hcl) (pre_S C0) hl dX10_post_27 rfl (Nat.le_of_ble_eq_true rfl) ⟨rfl, rfl⟩ ⟨Nat.le_of_ble_eq_true rfl, Nat.le_of_ble_eq_true rfl⟩ ⟨Nat.le_of_ble_eq_true rfl, Nat.le_of_ble_eq_true rfl⟩ rfl) ?_
      refine lv_if_eq (tgt := 63) hx hb dX10_post_30 (by decide) (fun hc => ?_) (fun hc => ?_)
      · have hF := oi_t hc hF
        exact wX10_post_63 ad A C0 M hr hF (lv_sub hl [] rfl)
      · have hF := oi_f hc hF
        refine lv_iload hx hb dX10_post_33 (lv_at hl 5 rfl) ?_
        refine lv_i2l (v := (x5.toInt64)) hx hb dX10_post_35 rfl ?_
        refine lv_ldc2 (v := (-20 : Int64)) hx hb hown (hts _ (uw_of 1259 (by decide +kernel) rfl)) dX10_post_36 ?_
        refine lv_ldc2 (v := (20 : Int64)) hx hb hown (hts _ (uw_of 1260 (by decide +kernel) rfl)) dX10_post_39 ?_
        obtain ⟨v42, hcl, hF⟩ := ob hF
        refine go_SI (r_S (rest := []) (As := [.long (x5.toInt64), .long (-20 : Int64), .long (20 : Int64)]) C0 cb_X10_156 (tX10_in l D cy ad hcl) (pre_S C0) hl dX10_post_42 rfl (Nat.le_of_ble_eq_true rfl) ⟨rfl, rfl⟩ ⟨Nat.le_of_ble_eq_true rfl, Nat.le_of_ble_eq_true rfl⟩ ⟨Nat.le_of_ble_eq_true rfl, Nat.le_of_ble_eq_true rfl⟩ rfl) ?_
        refine lv_if_eq (tgt := 63) hx hb dX10_post_45 (by decide) (fun hc => ?_) (fun hc => ?_)
        · have hF := oi_t hc hF
          exact wX10_post_63 ad A C0 M hr hF (lv_sub hl [] rfl)
        · have hF := oi_f hc hF
          refine lv_iload hx hb dX10_post_48 (lv_at hl 6 rfl) ?_
          refine lv_i2l (v := (x6.toInt64)) hx hb dX10_post_50 rfl ?_
          refine lv_ldc2 (v := (-20 : Int64)) hx hb hown (hts _ (uw_of 1259 (by decide +kernel) rfl)) dX10_post_51 ?_
          refine lv_ldc2 (v := (20 : Int64)) hx hb hown (hts _ (uw_of 1260 (by decide +kernel) rfl)) dX10_post_54 ?_
          obtain ⟨v57, hcl, hF⟩ := ob hF
          refine go_SI (r_S (rest := []) (As := [.long (x6.toInt64), .long (-20 : Int64), .long (20 : Int64)]) C0 cb_X10_156 (tX10_in l D cy ad hcl) (pre_S C0) hl dX10_post_57 rfl (Nat.le_of_ble_eq_true rfl) ⟨rfl, rfl⟩ ⟨Nat.le_of_ble_eq_true rfl, Nat.le_of_ble_eq_true rfl⟩ ⟨Nat.le_of_ble_eq_true rfl, Nat.le_of_ble_eq_true rfl⟩ rfl) ?_
          refine lv_if_ne (tgt := 66) hx hb dX10_post_60 (by decide) (fun hc => ?_) (fun hc => ?_)
          · have hF := oi_f hc hF
            refine lv_aload_n hx hb dX10_post_66 rfl (lv_at hl 0 rfl) ?_
            obtain ⟨v67, hv, hF⟩ := ob hF
            refine k_getI C0 M.1 hv fl_X10_153 dX10_post_67 ?_
            refine lv_bipush (v := (12 : Int32)) hx hb dX10_post_70 (by decide) ?_
            refine lv_icmp_ne (tgt := 78) hx hb dX10_post_72 (by decide) (fun hc => ?_) (fun hc => ?_)
            · have hF := oi_f hc hF
              refine lv_aload_n hx hb dX10_post_78 rfl (lv_at hl 0 rfl) ?_
              obtain ⟨v79, hv, hF⟩ := ob hF
              refine k_getP C0 M.1 hv fl_X10_7 dX10_post_79 ?_
              refine lv_aload_n hx hb dX10_post_82 rfl (lv_at hl 0 rfl) ?_
              obtain ⟨v83, hv, hF⟩ := ob hF
              refine k_getI C0 M.1 hv fl_X10_153 dX10_post_83 ?_
              refine lv_iload_n hx hb dX10_post_86 rfl (lv_at hl 1 rfl) ?_
              obtain ⟨S87, hv, hF⟩ := ob hF
              refine k_st C0 M hv dX10_post_87 (fun H locs M => ?_)
              refine lv_aload_n hx hb dX10_post_88 rfl (lv_at hl 0 rfl) ?_
              obtain ⟨v89, hv, hF⟩ := ob hF
              refine k_getP C0 M.1 hv fl_X10_13 dX10_post_89 ?_
              refine lv_aload_n hx hb dX10_post_92 rfl (lv_at hl 0 rfl) ?_
              obtain ⟨v93, hv, hF⟩ := ob hF
              refine k_getI C0 M.1 hv fl_X10_153 dX10_post_93 ?_
              refine lv_iload_n hx hb dX10_post_96 rfl (lv_at hl 2 rfl) ?_
              obtain ⟨S97, hv, hF⟩ := ob hF
              refine k_st C0 M hv dX10_post_97 (fun H locs M => ?_)
              refine lv_aload_n hx hb dX10_post_98 rfl (lv_at hl 0 rfl) ?_
              obtain ⟨v99, hv, hF⟩ := ob hF
              refine k_getP C0 M.1 hv fl_X10_16 dX10_post_99 ?_
              refine lv_aload_n hx hb dX10_post_102 rfl (lv_at hl 0 rfl) ?_
              obtain ⟨v103, hv, hF⟩ := ob hF
              refine k_getI C0 M.1 hv fl_X10_153 dX10_post_103 ?_
              refine lv_iload_n hx hb dX10_post_106 rfl (lv_at hl 3 rfl) ?_
              obtain ⟨S107, hv, hF⟩ := ob hF
              refine k_st C0 M hv dX10_post_107 (fun H locs M => ?_)
              refine lv_aload_n hx hb dX10_post_108 rfl (lv_at hl 0 rfl) ?_
              obtain ⟨v109, hv, hF⟩ := ob hF
              refine k_getP C0 M.1 hv fl_X10_19 dX10_post_109 ?_
              refine lv_aload_n hx hb dX10_post_112 rfl (lv_at hl 0 rfl) ?_
              obtain ⟨v113, hv, hF⟩ := ob hF
              refine k_getI C0 M.1 hv fl_X10_153 dX10_post_113 ?_
              refine lv_iload hx hb dX10_post_116 (lv_at hl 4 rfl) ?_
              obtain ⟨S118, hv, hF⟩ := ob hF
              refine k_st C0 M hv dX10_post_118 (fun H locs M => ?_)
              refine lv_aload_n hx hb dX10_post_119 rfl (lv_at hl 0 rfl) ?_
              obtain ⟨v120, hv, hF⟩ := ob hF
              refine k_getP C0 M.1 hv fl_X10_22 dX10_post_120 ?_
              refine lv_aload_n hx hb dX10_post_123 rfl (lv_at hl 0 rfl) ?_
              obtain ⟨v124, hv, hF⟩ := ob hF
              refine k_getI C0 M.1 hv fl_X10_153 dX10_post_124 ?_
              refine lv_iload hx hb dX10_post_127 (lv_at hl 5 rfl) ?_
              obtain ⟨S129, hv, hF⟩ := ob hF
              refine k_st C0 M hv dX10_post_129 (fun H locs M => ?_)
              refine lv_aload_n hx hb dX10_post_130 rfl (lv_at hl 0 rfl) ?_
              obtain ⟨v131, hv, hF⟩ := ob hF
              refine k_getP C0 M.1 hv fl_X10_25 dX10_post_131 ?_
              refine lv_aload_n hx hb dX10_post_134 rfl (lv_at hl 0 rfl) ?_
              obtain ⟨v135, hv, hF⟩ := ob hF
              refine k_getI C0 M.1 hv fl_X10_153 dX10_post_135 ?_
              refine lv_iload hx hb dX10_post_138 (lv_at hl 6 rfl) ?_
              obtain ⟨S140, hv, hF⟩ := ob hF
              refine k_st C0 M hv dX10_post_140 (fun H locs M => ?_)
              refine lv_aload_n hx hb dX10_post_141 rfl (lv_at hl 0 rfl) ?_
              refine lv_dup hx hb dX10_post_142 rfl ?_
              obtain ⟨v143, hv, hF⟩ := ob hF
              refine k_getI C0 M.1 hv fl_X10_153 dX10_post_143 ?_
              refine lv_iconst (v := (1 : Int32)) hx hb dX10_post_146 (by decide) ?_
              refine lv_iadd hx hb dX10_post_147 ?_
              obtain ⟨S148, hv, hF⟩ := ob hF
              refine k_sI C0 M hv fl_X10_153 dX10_post_148 (fun H locs M => ?_)
              refine lv_aload_n hx hb dX10_post_151 rfl (lv_at hl 0 rfl) ?_
              refine lv_iconst (v := (0 : Int32)) hx hb dX10_post_152 (by decide) ?_
              have hz : o_zb (0 : Int32) = some (0 : Int32) := rfl
              obtain ⟨S153, hv, hF⟩ := ob hF
              refine k_sZ C0 M hz hv fl_X10_174 dX10_post_153 (fun H locs M => ?_)
              refine lv_aload_n hx hb dX10_post_156 rfl (lv_at hl 0 rfl) ?_
              obtain ⟨v157, hv, hF⟩ := ob hF
              refine k_getI C0 M.1 hv fl_X10_153 dX10_post_157 ?_
              refine lv_iconst (v := (1 : Int32)) hx hb dX10_post_160 (by decide) ?_
              refine lv_isub hx hb dX10_post_161 ?_
              obtain ⟨rfl, rfl⟩ := Prod.mk.inj (Option.some.inj hF)
              exact rt_MI C0 M hr dX10_post_162
            · have hF := oi_t hc hF
              refine lv_bipush (v := (-4 : Int32)) hx hb dX10_post_75 (by decide) ?_
              obtain ⟨rfl, rfl⟩ := Prod.mk.inj (Option.some.inj hF)
              exact rt_MI C0 M hr dX10_post_77
          · have hF := oi_t hc hF
            exact wX10_post_63 ad A C0 M hr hF (lv_sub hl [] rfl)
set_option maxHeartbeats 4000000 in
set_option maxRecDepth 100000 in
theorem tX10_post (l : Launch) (D : va_G) (cy : Nat → ClassId) (ad : Nat → Nat) (A : Nat → Prop) {S S' : MS} {a0 : Nat} {a1 : Int32} {a2 : Int32} {a3 : Int32} {a4 : Int32} {a5 : Int32} {a6 : Int32} {r : Int32} (h : fX10_post S a0 a1 a2 a3 a4 a5 a6 = some (r, S')) : Met l yX10_post [Cond.code yX10_post cX10_post 7 (some .int)] rmX10_post (PcR D cy ad A S [.ref (ad a0), .int a1, .int a2, .int a3, .int a4, .int a5, .int a6]) (QcM D cy ad A (m_n S) S' (some (.int r))) 0 0 A := by
  refine met_M (by decide +kernel) cw_X10_post (Nat.le_of_ble_eq_true rfl) ?_
  intro p e s m args below meth c ls C0 M hr hin hl
  have hl : lv_has ls 7 [(0, .ref (ad a0)), (1, .int a1), (2, .int a2), (3, .int a3), (4, .int a4), (5, .int a5), (6, .int a6)] := hl
  exact wX10_post_0 ad A C0 M hr h hl
set_option maxHeartbeats 4000000 in
set_option maxRecDepth 100000 in
theorem wX10_prognosis_0 {p : Program} {l : Launch} {e : Env} {s : State} {m : MethodId} {args : Array Value} {below : List Frame} {meth : Method} {c : Code} {D : va_G} {cy : Nat → ClassId} (ad : Nat → Nat) (A : Nat → Prop) {S : MS} {S' : MS} {H : Heap} {locs : List Loc} {n0 : Nat} {r : Int32} {ls : Array Slot} {x0 : Nat} {x1 : Int32} {x2 : Int32} {x3 : Int32} {x4 : Int32} (C0 : CX p s m args meth c RX10 cX10_prognosis 5 D cy) (M : ST D cy ad A s.heap (ZN n0 s.heap.size) S H locs) (hr : meth.sig.returnType = some .int) (hF : bX10_prognosis_0 S x0 x1 x2 x3 x4 = some (r, S')) (hl : lv_has ls 5 [(0, .ref (ad x0)), (1, .int x1), (2, .int x2), (3, .int x3), (4, .int x4)]) : W p l e rmX10_prognosis s m args below meth c H locs 0 0 (MQ below (QcM D cy ad A n0 S' (some (.int r))) args s 0 0 A) (F0 m 0 ls []) := by
  unfold bX10_prognosis_0 at hF
  obtain ⟨hx, hb, -, hown, -, hts, -⟩ := id C0
  refine lv_iload_n hx hb dX10_prognosis_0 rfl (lv_at hl 1 rfl) ?_
  refine lv_iload_n hx hb dX10_prognosis_1 rfl (lv_at hl 2 rfl) ?_
  obtain ⟨v2, hcl, hF⟩ := ob hF
  refine go_SI (r_S (rest := []) (As := [.int x1, .int x2]) C0 cb_X10_366 (tX10_isShift l D cy ad hcl) (pre_S C0) hl dX10_prognosis_2 rfl (Nat.le_of_ble_eq_true rfl) ⟨rfl, rfl⟩ ⟨Nat.le_of_ble_eq_true rfl, Nat.le_of_ble_eq_true rfl⟩ ⟨Nat.le_of_ble_eq_true rfl, Nat.le_of_ble_eq_true rfl⟩ rfl) ?_
  refine lv_if_ne (tgt := 11) hx hb dX10_prognosis_5 (by decide) (fun hc => ?_) (fun hc => ?_)
  · have hF := oi_f hc hF
    refine lv_iload_n hx hb dX10_prognosis_11 rfl (lv_at hl 3 rfl) ?_
    refine lv_iload hx hb dX10_prognosis_12 (lv_at hl 4 rfl) ?_
    obtain ⟨v14, hcl, hF⟩ := ob hF
    refine go_SI (r_S (rest := []) (As := [.int x3, .int x4]) C0 cb_X10_164 (tX10_isPlace l D cy ad hcl) (pre_S C0) hl dX10_prognosis_14 rfl (Nat.le_of_ble_eq_true rfl) ⟨rfl, rfl⟩ ⟨Nat.le_of_ble_eq_true rfl, Nat.le_of_ble_eq_true rfl⟩ ⟨Nat.le_of_ble_eq_true rfl, Nat.le_of_ble_eq_true rfl⟩ rfl) ?_
    refine lv_if_ne (tgt := 22) hx hb dX10_prognosis_17 (by decide) (fun hc => ?_) (fun hc => ?_)
    · have hF := oi_f hc hF
      refine lv_aload_n hx hb dX10_prognosis_22 rfl (lv_at hl 0 rfl) ?_
      obtain ⟨_, hrec, hF⟩ := ob hF
      obtain ⟨S23, hcl, hF⟩ := ob hF
      refine go_MV (r_V (rest := []) (As := []) C0 cb_X10_237 M.1 hrec (tX10_layChart l D cy ad A hcl) (pre_R C0 M.1) hl dX10_prognosis_23 rfl (Nat.le_of_ble_eq_true rfl) ⟨rfl, rfl⟩ ⟨Nat.le_of_ble_eq_true rfl, Nat.le_of_ble_eq_true rfl⟩ ⟨Nat.le_of_ble_eq_true rfl, Nat.le_of_ble_eq_true rfl⟩ rfl) M (fun H locs M => ?_)
      refine lv_aload_n hx hb dX10_prognosis_26 rfl (lv_at hl 0 rfl) ?_
      refine lv_iload_n hx hb dX10_prognosis_27 rfl (lv_at hl 1 rfl) ?_
      refine lv_iload_n hx hb dX10_prognosis_28 rfl (lv_at hl 2 rfl) ?_
      refine lv_iload_n hx hb dX10_prognosis_29 rfl (lv_at hl 3 rfl) ?_
      refine lv_iload hx hb dX10_prognosis_30 (lv_at hl 4 rfl) ?_
      obtain ⟨_, hrec, hF⟩ := ob hF
      obtain ⟨v32, hcl, hF⟩ := ob hF
      refine go_SI (r_V (rest := []) (As := [.int x1, .int x2, .int x3, .int x4]) C0 cb_X10_369 M.1 hrec (tX10_valueMoved l D cy ad A hcl) (pre_R C0 M.1) hl dX10_prognosis_32 rfl (Nat.le_of_ble_eq_true rfl) ⟨rfl, rfl⟩ ⟨Nat.le_of_ble_eq_true rfl, Nat.le_of_ble_eq_true rfl⟩ ⟨Nat.le_of_ble_eq_true rfl, Nat.le_of_ble_eq_true rfl⟩ rfl) ?_
      obtain ⟨rfl, rfl⟩ := Prod.mk.inj (Option.some.inj hF)
      exact rt_MI C0 M hr dX10_prognosis_35
    · have hF := oi_t hc hF
      refine lv_iconst (v := (-1 : Int32)) hx hb dX10_prognosis_20 (by decide) ?_
      obtain ⟨rfl, rfl⟩ := Prod.mk.inj (Option.some.inj hF)
      exact rt_MI C0 M hr dX10_prognosis_21
  · have hF := oi_t hc hF
    refine lv_bipush (v := (-2 : Int32)) hx hb dX10_prognosis_8 (by decide) ?_
    obtain ⟨rfl, rfl⟩ := Prod.mk.inj (Option.some.inj hF)
    exact rt_MI C0 M hr dX10_prognosis_10
set_option maxHeartbeats 4000000 in
set_option maxRecDepth 100000 in
theorem tX10_prognosis (l : Launch) (D : va_G) (cy : Nat → ClassId) (ad : Nat → Nat) (A : Nat → Prop) {S S' : MS} {a0 : Nat} {a1 : Int32} {a2 : Int32} {a3 : Int32} {a4 : Int32} {r : Int32} (h : fX10_prognosis S a0 a1 a2 a3 a4 = some (r, S')) : Met l yX10_prognosis [Cond.code yX10_prognosis cX10_prognosis 5 (some .int)] rmX10_prognosis (PcR D cy ad A S [.ref (ad a0), .int a1, .int a2, .int a3, .int a4]) (QcM D cy ad A (m_n S) S' (some (.int r))) 0 0 A := by
  refine met_M (by decide +kernel) cw_X10_prognosis (Nat.le_of_ble_eq_true rfl) ?_
  intro p e s m args below meth c ls C0 M hr hin hl
  have hl : lv_has ls 5 [(0, .ref (ad a0)), (1, .int a1), (2, .int a2), (3, .int a3), (4, .int a4)] := hl
  exact wX10_prognosis_0 ad A C0 M hr h hl
set_option maxHeartbeats 4000000 in
set_option maxRecDepth 100000 in
theorem wX10_put_73 {p : Program} {l : Launch} {e : Env} {s : State} {m : MethodId} {args : Array Value} {below : List Frame} {meth : Method} {c : Code} {D : va_G} {cy : Nat → ClassId} (ad : Nat → Nat) (A : Nat → Prop) {S : MS} {S' : MS} {H : Heap} {locs : List Loc} {n0 : Nat} {r : Int32} {ls : Array Slot} {x0 : Nat} {z0 : Nat} {z1 : Int32} {z2 : Int32} (C0 : CX p s m args meth c RX10 cX10_put 4 D cy) (M : ST D cy ad A s.heap (ZN n0 s.heap.size) S H locs) (hr : meth.sig.returnType = some .int) (hF : bX10_put_73 S x0 z0 z1 z2 = some (r, S')) (hl : lv_has ls 4 [(0, .ref (ad x0))]) : W p l e rmX10_put s m args below meth c H locs 0 0 (MQ below (QcM D cy ad A n0 S' (some (.int r))) args s 0 0 A) (F0 m 73 ls [.int z2, .int z1, .ref (ad z0)]) := by
  unfold bX10_put_73 at hF
  obtain ⟨hx, hb, -, hown, -, hts, -⟩ := id C0
  obtain ⟨S73, hv, hF⟩ := ob hF
  refine k_st C0 M hv dX10_put_73 (fun H locs M => ?_)
  refine lv_aload_n hx hb dX10_put_74 rfl (lv_at hl 0 rfl) ?_
  refine lv_iconst (v := (1 : Int32)) hx hb dX10_put_75 (by decide) ?_
  obtain ⟨_, hrec, hF⟩ := ob hF
  obtain ⟨v76, S76, hcl, hF⟩ := ob2 hF
  refine go_MI (r_V (rest := []) (As := [.int (1 : Int32)]) C0 cb_X10_215 M.1 hrec (tX10_refused l D cy ad A hcl) (pre_R C0 M.1) hl dX10_put_76 rfl (Nat.le_of_ble_eq_true rfl) ⟨rfl, rfl⟩ ⟨Nat.le_of_ble_eq_true rfl, Nat.le_of_ble_eq_true rfl⟩ ⟨Nat.le_of_ble_eq_true rfl, Nat.le_of_ble_eq_true rfl⟩ rfl) M (fun H locs M => ?_)
  obtain ⟨rfl, rfl⟩ := Prod.mk.inj (Option.some.inj hF)
  exact rt_MI C0 M hr dX10_put_79
set_option maxHeartbeats 4000000 in
set_option maxRecDepth 100000 in
theorem wX10_put_0 {p : Program} {l : Launch} {e : Env} {s : State} {m : MethodId} {args : Array Value} {below : List Frame} {meth : Method} {c : Code} {D : va_G} {cy : Nat → ClassId} (ad : Nat → Nat) (A : Nat → Prop) {S : MS} {S' : MS} {H : Heap} {locs : List Loc} {n0 : Nat} {r : Int32} {ls : Array Slot} {x0 : Nat} {x1 : Int32} {x2 : Int32} {x3 : Int32} (C0 : CX p s m args meth c RX10 cX10_put 4 D cy) (M : ST D cy ad A s.heap (ZN n0 s.heap.size) S H locs) (hr : meth.sig.returnType = some .int) (hF : bX10_put_0 S x0 x1 x2 x3 = some (r, S')) (hl : lv_has ls 4 [(0, .ref (ad x0)), (1, .int x1), (2, .int x2), (3, .int x3)]) : W p l e rmX10_put s m args below meth c H locs 0 0 (MQ below (QcM D cy ad A n0 S' (some (.int r))) args s 0 0 A) (F0 m 0 ls []) := by
  unfold bX10_put_0 at hF
  obtain ⟨hx, hb, -, hown, -, hts, -⟩ := id C0
  refine lv_iload_n hx hb dX10_put_0 rfl (lv_at hl 1 rfl) ?_
  obtain ⟨v1, hcl, hF⟩ := ob hF
  refine go_SI (r_S (rest := []) (As := [.int x1]) C0 cb_X10_212 (tX10_noSheet l D cy ad hcl) (pre_S C0) hl dX10_put_1 rfl (Nat.le_of_ble_eq_true rfl) ⟨rfl, rfl⟩ ⟨Nat.le_of_ble_eq_true rfl, Nat.le_of_ble_eq_true rfl⟩ ⟨Nat.le_of_ble_eq_true rfl, Nat.le_of_ble_eq_true rfl⟩ rfl) ?_
  refine lv_if_eq (tgt := 13) hx hb dX10_put_4 (by decide) (fun hc => ?_) (fun hc => ?_)
  · have hF := oi_t hc hF
    refine lv_aload_n hx hb dX10_put_13 rfl (lv_at hl 0 rfl) ?_
    refine lv_iload_n hx hb dX10_put_14 rfl (lv_at hl 1 rfl) ?_
    refine lv_iload_n hx hb dX10_put_15 rfl (lv_at hl 2 rfl) ?_
    obtain ⟨_, hrec, hF⟩ := ob hF
    obtain ⟨v16, hcl, hF⟩ := ob hF
    refine go_SI (r_V (rest := []) (As := [.int x1, .int x2]) C0 cb_X10_411 M.1 hrec (tX10_noCell l D cy ad A hcl) (pre_R C0 M.1) hl dX10_put_16 rfl (Nat.le_of_ble_eq_true rfl) ⟨rfl, rfl⟩ ⟨Nat.le_of_ble_eq_true rfl, Nat.le_of_ble_eq_true rfl⟩ ⟨Nat.le_of_ble_eq_true rfl, Nat.le_of_ble_eq_true rfl⟩ rfl) ?_
    refine lv_if_le (tgt := 33) hx hb dX10_put_19 (by decide) (fun hc => ?_) (fun hc => ?_)
    · have hF := oi_t hc hF
      refine lv_aload_n hx hb dX10_put_33 rfl (lv_at hl 0 rfl) ?_
      obtain ⟨v34, hv, hF⟩ := ob hF
      refine k_getP C0 M.1 hv fl_X10_131 dX10_put_34 ?_
      refine lv_bipush (v := (60 : Int32)) hx hb dX10_put_37 (by decide) ?_
      refine lv_iload_n hx hb dX10_put_39 rfl (lv_at hl 1 rfl) ?_
      refine lv_imul hx hb dX10_put_40 ?_
      refine lv_iload_n hx hb dX10_put_41 rfl (lv_at hl 2 rfl) ?_
      refine lv_iadd hx hb dX10_put_42 ?_
      refine lv_aload_n hx hb dX10_put_43 rfl (lv_at hl 0 rfl) ?_
      obtain ⟨v44, hv, hF⟩ := ob hF
      refine k_getP C0 M.1 hv fl_X10_128 dX10_put_44 ?_
      refine lv_iload_n hx hb dX10_put_47 rfl (lv_at hl 1 rfl) ?_
      obtain ⟨v48, hv, hF⟩ := ob hF
      refine k_ld C0 M.1 hv dX10_put_48 ?_
      refine lv_if_ne (tgt := 57) hx hb dX10_put_49 (by decide) (fun hc => ?_) (fun hc => ?_)
      · have hF := oi_f hc hF
        refine lv_aload_n hx hb dX10_put_57 rfl (lv_at hl 0 rfl) ?_
        obtain ⟨v58, hv, hF⟩ := ob hF
        refine k_getP C0 M.1 hv fl_X10_128 dX10_put_58 ?_
        refine lv_iload_n hx hb dX10_put_61 rfl (lv_at hl 1 rfl) ?_
        obtain ⟨v62, hv, hF⟩ := ob hF
        refine k_ld C0 M.1 hv dX10_put_62 ?_
        refine lv_iconst (v := (1 : Int32)) hx hb dX10_put_63 (by decide) ?_
        refine lv_icmp_ne (tgt := 72) hx hb dX10_put_64 (by decide) (fun hc => ?_) (fun hc => ?_)
        · have hF := oi_f hc hF
          refine lv_iload_n hx hb dX10_put_72 rfl (lv_at hl 3 rfl) ?_
          exact wX10_put_73 ad A C0 M hr hF (lv_sub hl [0] rfl)
        · have hF := oi_t hc hF
          refine lv_iload_n hx hb dX10_put_67 rfl (lv_at hl 3 rfl) ?_
          refine lv_i2s (v := (x3.toInt16.toInt32)) hx hb dX10_put_68 rfl ?_
          refine lv_goto (tgt := 73) hx hb dX10_put_69 (by decide) ?_
          exact wX10_put_73 ad A C0 M hr hF (lv_sub hl [0] rfl)
      · have hF := oi_t hc hF
        refine lv_iload_n hx hb dX10_put_52 rfl (lv_at hl 3 rfl) ?_
        refine lv_i2b (v := (x3.toInt8.toInt32)) hx hb dX10_put_53 rfl ?_
        refine lv_goto (tgt := 73) hx hb dX10_put_54 (by decide) ?_
        exact wX10_put_73 ad A C0 M hr hF (lv_sub hl [0] rfl)
    · have hF := oi_f hc hF
      refine lv_aload_n hx hb dX10_put_22 rfl (lv_at hl 0 rfl) ?_
      refine lv_aload_n hx hb dX10_put_23 rfl (lv_at hl 0 rfl) ?_
      refine lv_iload_n hx hb dX10_put_24 rfl (lv_at hl 1 rfl) ?_
      refine lv_iload_n hx hb dX10_put_25 rfl (lv_at hl 2 rfl) ?_
      obtain ⟨_, hrec, hF⟩ := ob hF
      obtain ⟨v26, hcl, hF⟩ := ob hF
      refine go_SI (r_V (rest := [.ref (ad x0)]) (As := [.int x1, .int x2]) C0 cb_X10_411 M.1 hrec (tX10_noCell l D cy ad A hcl) (pre_R C0 M.1) hl dX10_put_26 rfl (Nat.le_of_ble_eq_true rfl) ⟨rfl, rfl⟩ ⟨Nat.le_of_ble_eq_true rfl, Nat.le_of_ble_eq_true rfl⟩ ⟨Nat.le_of_ble_eq_true rfl, Nat.le_of_ble_eq_true rfl⟩ rfl) ?_
      obtain ⟨_, hrec, hF⟩ := ob hF
      obtain ⟨v29, S29, hcl, hF⟩ := ob2 hF
      refine go_MI (r_V (rest := []) (As := [.int v26]) C0 cb_X10_218 M.1 hrec (tX10_failed l D cy ad A hcl) (pre_R C0 M.1) hl dX10_put_29 rfl (Nat.le_of_ble_eq_true rfl) ⟨rfl, rfl⟩ ⟨Nat.le_of_ble_eq_true rfl, Nat.le_of_ble_eq_true rfl⟩ ⟨Nat.le_of_ble_eq_true rfl, Nat.le_of_ble_eq_true rfl⟩ rfl) M (fun H locs M => ?_)
      obtain ⟨rfl, rfl⟩ := Prod.mk.inj (Option.some.inj hF)
      exact rt_MI C0 M hr dX10_put_32
  · have hF := oi_f hc hF
    refine lv_aload_n hx hb dX10_put_7 rfl (lv_at hl 0 rfl) ?_
    refine lv_iconst (v := (-1 : Int32)) hx hb dX10_put_8 (by decide) ?_
    obtain ⟨_, hrec, hF⟩ := ob hF
    obtain ⟨v9, S9, hcl, hF⟩ := ob2 hF
    refine go_MI (r_V (rest := []) (As := [.int (-1 : Int32)]) C0 cb_X10_215 M.1 hrec (tX10_refused l D cy ad A hcl) (pre_R C0 M.1) hl dX10_put_9 rfl (Nat.le_of_ble_eq_true rfl) ⟨rfl, rfl⟩ ⟨Nat.le_of_ble_eq_true rfl, Nat.le_of_ble_eq_true rfl⟩ ⟨Nat.le_of_ble_eq_true rfl, Nat.le_of_ble_eq_true rfl⟩ rfl) M (fun H locs M => ?_)
    obtain ⟨rfl, rfl⟩ := Prod.mk.inj (Option.some.inj hF)
    exact rt_MI C0 M hr dX10_put_12
set_option maxHeartbeats 4000000 in
set_option maxRecDepth 100000 in
theorem tX10_put (l : Launch) (D : va_G) (cy : Nat → ClassId) (ad : Nat → Nat) (A : Nat → Prop) {S S' : MS} {a0 : Nat} {a1 : Int32} {a2 : Int32} {a3 : Int32} {r : Int32} (h : fX10_put S a0 a1 a2 a3 = some (r, S')) : Met l yX10_put [Cond.code yX10_put cX10_put 4 (some .int)] rmX10_put (PcR D cy ad A S [.ref (ad a0), .int a1, .int a2, .int a3]) (QcM D cy ad A (m_n S) S' (some (.int r))) 0 0 A := by
  refine met_M (by decide +kernel) cw_X10_put (Nat.le_of_ble_eq_true rfl) ?_
  intro p e s m args below meth c ls C0 M hr hin hl
  have hl : lv_has ls 4 [(0, .ref (ad a0)), (1, .int a1), (2, .int a2), (3, .int a3)] := hl
  exact wX10_put_0 ad A C0 M hr h hl
set_option maxHeartbeats 4000000 in
set_option maxRecDepth 100000 in
theorem wX10_quarrel_16 {p : Program} {l : Launch} {e : Env} {s : State} {m : MethodId} {args : Array Value} {below : List Frame} {meth : Method} {c : Code} {D : va_G} {cy : Nat → ClassId} (ad : Nat → Nat) (A : Nat → Prop) {S : MS} {S' : MS} {H : Heap} {locs : List Loc} {n0 : Nat} {r : Int32} {ls : Array Slot} (C0 : CX p s m args meth c RX10 cX10_quarrel 3 D cy) (M : ST D cy ad A s.heap (ZN n0 s.heap.size) S H locs) (hr : meth.sig.returnType = some .int) (hF : bX10_quarrel_16 S = some (r, S')) (hl : lv_has ls 3 []) : W p l e rmX10_quarrel s m args below meth c H locs 0 0 (MQ below (QcM D cy ad A n0 S' (some (.int r))) args s 0 0 A) (F0 m 16 ls []) := by
  unfold bX10_quarrel_16 at hF
  obtain ⟨hx, hb, -, hown, -, hts, -⟩ := id C0
  refine lv_iconst (v := (-1 : Int32)) hx hb dX10_quarrel_16 (by decide) ?_
  obtain ⟨rfl, rfl⟩ := Prod.mk.inj (Option.some.inj hF)
  exact rt_MI C0 M hr dX10_quarrel_17
set_option maxHeartbeats 4000000 in
set_option maxRecDepth 100000 in
theorem wX10_quarrel_45 {p : Program} {l : Launch} {e : Env} {s : State} {m : MethodId} {args : Array Value} {below : List Frame} {meth : Method} {c : Code} {D : va_G} {cy : Nat → ClassId} (ad : Nat → Nat) (A : Nat → Prop) {S : MS} {S' : MS} {H : Heap} {locs : List Loc} {n0 : Nat} {r : Int32} {ls : Array Slot} (C0 : CX p s m args meth c RX10 cX10_quarrel 3 D cy) (M : ST D cy ad A s.heap (ZN n0 s.heap.size) S H locs) (hr : meth.sig.returnType = some .int) (hF : bX10_quarrel_45 S = some (r, S')) (hl : lv_has ls 3 []) : W p l e rmX10_quarrel s m args below meth c H locs 0 0 (MQ below (QcM D cy ad A n0 S' (some (.int r))) args s 0 0 A) (F0 m 45 ls []) := by
  unfold bX10_quarrel_45 at hF
  obtain ⟨hx, hb, -, hown, -, hts, -⟩ := id C0
  refine lv_bipush (v := (-3 : Int32)) hx hb dX10_quarrel_45 (by decide) ?_
  obtain ⟨rfl, rfl⟩ := Prod.mk.inj (Option.some.inj hF)
  exact rt_MI C0 M hr dX10_quarrel_47
set_option maxHeartbeats 4000000 in
set_option maxRecDepth 100000 in
theorem wX10_quarrel_62 {p : Program} {l : Launch} {e : Env} {s : State} {m : MethodId} {args : Array Value} {below : List Frame} {meth : Method} {c : Code} {D : va_G} {cy : Nat → ClassId} (ad : Nat → Nat) (A : Nat → Prop) {S : MS} {S' : MS} {H : Heap} {locs : List Loc} {n0 : Nat} {r : Int32} {ls : Array Slot} {z0 : Int32} (C0 : CX p s m args meth c RX10 cX10_quarrel 3 D cy) (M : ST D cy ad A s.heap (ZN n0 s.heap.size) S H locs) (hr : meth.sig.returnType = some .int) (hF : bX10_quarrel_62 S z0 = some (r, S')) (hl : lv_has ls 3 []) : W p l e rmX10_quarrel s m args below meth c H locs 0 0 (MQ below (QcM D cy ad A n0 S' (some (.int r))) args s 0 0 A) (F0 m 62 ls [.int z0]) := by
  unfold bX10_quarrel_62 at hF
  obtain ⟨hx, hb, -, hown, -, hts, -⟩ := id C0
  obtain ⟨rfl, rfl⟩ := Prod.mk.inj (Option.some.inj hF)
  exact rt_MI C0 M hr dX10_quarrel_62
set_option maxHeartbeats 4000000 in
set_option maxRecDepth 100000 in
theorem wX10_quarrel_0 {p : Program} {l : Launch} {e : Env} {s : State} {m : MethodId} {args : Array Value} {below : List Frame} {meth : Method} {c : Code} {D : va_G} {cy : Nat → ClassId} (ad : Nat → Nat) (A : Nat → Prop) {S : MS} {S' : MS} {H : Heap} {locs : List Loc} {n0 : Nat} {r : Int32} {ls : Array Slot} {x0 : Nat} {x1 : Int32} {x2 : Int32} (C0 : CX p s m args meth c RX10 cX10_quarrel 3 D cy) (M : ST D cy ad A s.heap (ZN n0 s.heap.size) S H locs) (hr : meth.sig.returnType = some .int) (hF : bX10_quarrel_0 S x0 x1 x2 = some (r, S')) (hl : lv_has ls 3 [(0, .ref (ad x0)), (1, .int x1), (2, .int x2)]) : W p l e rmX10_quarrel s m args below meth c H locs 0 0 (MQ below (QcM D cy ad A n0 S' (some (.int r))) args s 0 0 A) (F0 m 0 ls []) := by
  unfold bX10_quarrel_0 at hF
  obtain ⟨hx, hb, -, hown, -, hts, -⟩ := id C0
  refine lv_aload_n hx hb dX10_quarrel_0 rfl (lv_at hl 0 rfl) ?_
  refine lv_iload_n hx hb dX10_quarrel_1 rfl (lv_at hl 1 rfl) ?_
  obtain ⟨_, hrec, hF⟩ := ob hF
  obtain ⟨v2, hcl, hF⟩ := ob hF
  refine go_SI (r_V (rest := []) (As := [.int x1]) C0 cb_X10_186 M.1 hrec (tX10_noPost l D cy ad A hcl) (pre_R C0 M.1) hl dX10_quarrel_2 rfl (Nat.le_of_ble_eq_true rfl) ⟨rfl, rfl⟩ ⟨Nat.le_of_ble_eq_true rfl, Nat.le_of_ble_eq_true rfl⟩ ⟨Nat.le_of_ble_eq_true rfl, Nat.le_of_ble_eq_true rfl⟩ rfl) ?_
  refine lv_if_ne (tgt := 16) hx hb dX10_quarrel_5 (by decide) (fun hc => ?_) (fun hc => ?_)
  · have hF := oi_f hc hF
    exact wX10_quarrel_16 ad A C0 M hr hF (lv_sub hl [] rfl)
  · have hF := oi_t hc hF
    refine lv_aload_n hx hb dX10_quarrel_8 rfl (lv_at hl 0 rfl) ?_
    refine lv_iload_n hx hb dX10_quarrel_9 rfl (lv_at hl 2 rfl) ?_
    obtain ⟨_, hrec, hF⟩ := ob hF
    obtain ⟨v10, hcl, hF⟩ := ob hF
    refine go_SI (r_V (rest := []) (As := [.int x2]) C0 cb_X10_186 M.1 hrec (tX10_noPost l D cy ad A hcl) (pre_R C0 M.1) hl dX10_quarrel_10 rfl (Nat.le_of_ble_eq_true rfl) ⟨rfl, rfl⟩ ⟨Nat.le_of_ble_eq_true rfl, Nat.le_of_ble_eq_true rfl⟩ ⟨Nat.le_of_ble_eq_true rfl, Nat.le_of_ble_eq_true rfl⟩ rfl) ?_
    refine lv_if_eq (tgt := 18) hx hb dX10_quarrel_13 (by decide) (fun hc => ?_) (fun hc => ?_)
    · have hF := oi_t hc hF
      refine lv_aload_n hx hb dX10_quarrel_18 rfl (lv_at hl 0 rfl) ?_
      obtain ⟨_, hrec, hF⟩ := ob hF
      obtain ⟨S19, hcl, hF⟩ := ob hF
      refine go_MV (r_V (rest := []) (As := []) C0 cb_X10_237 M.1 hrec (tX10_layChart l D cy ad A hcl) (pre_R C0 M.1) hl dX10_quarrel_19 rfl (Nat.le_of_ble_eq_true rfl) ⟨rfl, rfl⟩ ⟨Nat.le_of_ble_eq_true rfl, Nat.le_of_ble_eq_true rfl⟩ ⟨Nat.le_of_ble_eq_true rfl, Nat.le_of_ble_eq_true rfl⟩ rfl) M (fun H locs M => ?_)
      refine lv_iload_n hx hb dX10_quarrel_22 rfl (lv_at hl 1 rfl) ?_
      refine lv_iload_n hx hb dX10_quarrel_23 rfl (lv_at hl 2 rfl) ?_
      refine lv_icmp_eq (tgt := 45) hx hb dX10_quarrel_24 (by decide) (fun hc => ?_) (fun hc => ?_)
      · have hF := oi_t hc hF
        exact wX10_quarrel_45 ad A C0 M hr hF (lv_sub hl [] rfl)
      · have hF := oi_f hc hF
        refine lv_aload_n hx hb dX10_quarrel_27 rfl (lv_at hl 0 rfl) ?_
        obtain ⟨v28, hv, hF⟩ := ob hF
        refine k_getP C0 M.1 hv fl_X10_46 dX10_quarrel_28 ?_
        refine lv_iload_n hx hb dX10_quarrel_31 rfl (lv_at hl 1 rfl) ?_
        obtain ⟨v32, hv, hF⟩ := ob hF
        refine k_ld C0 M.1 hv dX10_quarrel_32 ?_
        refine lv_if_lt (tgt := 45) hx hb dX10_quarrel_33 (by decide) (fun hc => ?_) (fun hc => ?_)
        · have hF := oi_t hc hF
          exact wX10_quarrel_45 ad A C0 M hr hF (lv_sub hl [] rfl)
        · have hF := oi_f hc hF
          refine lv_aload_n hx hb dX10_quarrel_36 rfl (lv_at hl 0 rfl) ?_
          obtain ⟨v37, hv, hF⟩ := ob hF
          refine k_getP C0 M.1 hv fl_X10_46 dX10_quarrel_37 ?_
          refine lv_iload_n hx hb dX10_quarrel_40 rfl (lv_at hl 2 rfl) ?_
          obtain ⟨v41, hv, hF⟩ := ob hF
          refine k_ld C0 M.1 hv dX10_quarrel_41 ?_
          refine lv_if_ge (tgt := 48) hx hb dX10_quarrel_42 (by decide) (fun hc => ?_) (fun hc => ?_)
          · have hF := oi_t hc hF
            refine lv_aload_n hx hb dX10_quarrel_48 rfl (lv_at hl 0 rfl) ?_
            refine lv_iload_n hx hb dX10_quarrel_49 rfl (lv_at hl 1 rfl) ?_
            refine lv_iload_n hx hb dX10_quarrel_50 rfl (lv_at hl 2 rfl) ?_
            obtain ⟨_, hrec, hF⟩ := ob hF
            obtain ⟨v51, hcl, hF⟩ := ob hF
            refine go_SI (r_V (rest := []) (As := [.int x1, .int x2]) C0 cb_X10_260 M.1 hrec (tX10_doQuarrel l D cy ad A hcl) (pre_R C0 M.1) hl dX10_quarrel_51 rfl (Nat.le_of_ble_eq_true rfl) ⟨rfl, rfl⟩ ⟨Nat.le_of_ble_eq_true rfl, Nat.le_of_ble_eq_true rfl⟩ ⟨Nat.le_of_ble_eq_true rfl, Nat.le_of_ble_eq_true rfl⟩ rfl) ?_
            refine lv_if_eq (tgt := 61) hx hb dX10_quarrel_54 (by decide) (fun hc => ?_) (fun hc => ?_)
            · have hF := oi_t hc hF
              refine lv_iconst (v := (0 : Int32)) hx hb dX10_quarrel_61 (by decide) ?_
              exact wX10_quarrel_62 ad A C0 M hr hF (lv_sub hl [] rfl)
            · have hF := oi_f hc hF
              refine lv_iconst (v := (1 : Int32)) hx hb dX10_quarrel_57 (by decide) ?_
              refine lv_goto (tgt := 62) hx hb dX10_quarrel_58 (by decide) ?_
              exact wX10_quarrel_62 ad A C0 M hr hF (lv_sub hl [] rfl)
          · have hF := oi_f hc hF
            exact wX10_quarrel_45 ad A C0 M hr hF (lv_sub hl [] rfl)
    · have hF := oi_f hc hF
      exact wX10_quarrel_16 ad A C0 M hr hF (lv_sub hl [] rfl)
set_option maxHeartbeats 4000000 in
set_option maxRecDepth 100000 in
theorem tX10_quarrel (l : Launch) (D : va_G) (cy : Nat → ClassId) (ad : Nat → Nat) (A : Nat → Prop) {S S' : MS} {a0 : Nat} {a1 : Int32} {a2 : Int32} {r : Int32} (h : fX10_quarrel S a0 a1 a2 = some (r, S')) : Met l yX10_quarrel [Cond.code yX10_quarrel cX10_quarrel 3 (some .int)] rmX10_quarrel (PcR D cy ad A S [.ref (ad a0), .int a1, .int a2]) (QcM D cy ad A (m_n S) S' (some (.int r))) 0 0 A := by
  refine met_M (by decide +kernel) cw_X10_quarrel (Nat.le_of_ble_eq_true rfl) ?_
  intro p e s m args below meth c ls C0 M hr hin hl
  have hl : lv_has ls 3 [(0, .ref (ad a0)), (1, .int a1), (2, .int a2)] := hl
  exact wX10_quarrel_0 ad A C0 M hr h hl
set_option maxHeartbeats 4000000 in
set_option maxRecDepth 100000 in
theorem wX10_readingAt_0 {p : Program} {l : Launch} {e : Env} {s : State} {m : MethodId} {args : Array Value} {below : List Frame} {meth : Method} {c : Code} {D : va_G} {cy : Nat → ClassId} (ad : Nat → Nat) (A : Nat → Prop) {S : MS} {r : Int32} {out : ((Nat × Int32 × Int32 × Int32 × Int32 × Int32) ⊕ Int32)} {ls : Array Slot} {x0 : Nat} {x1 : Int32} {x2 : Int32} {x3 : Int32} (C0 : CX p s m args meth c RX10 cX10_readingAt 7 D cy) (M : MW D cy ad A S s.heap) (hr : meth.sig.returnType = some .int) (hF : bX10_readingAt_0 S x0 x1 x2 x3 = some out) (hl : lv_has ls 7 [(0, .ref (ad x0)), (1, .int x1), (2, .int x2), (3, .int x3)]) (Kr : ∀ r9, out = .inr r9 → r9 = r) (Kh0 : ∀ (y0 : Nat) (y1 : Int32) (y2 : Int32) (y3 : Int32) (y4 : Int32) (y5 : Int32), out = .inl (y0, y1, y2, y3, y4, y5) → ∀ (ls1 : Array Slot), lv_has ls1 7 [(0, .ref (ad y0)), (1, .int y1), (2, .int y2), (3, .int y3), (4, .int y4), (5, .int y5)] → W p l e rmX10_readingAt s m args below meth c s.heap [] 0 0 (MQ below (QcS (some (.int r))) args s 0 0 (fun _ => False)) (F0 m 6 ls1 [])) : W p l e rmX10_readingAt s m args below meth c s.heap [] 0 0 (MQ below (QcS (some (.int r))) args s 0 0 (fun _ => False)) (F0 m 0 ls []) := by
  unfold bX10_readingAt_0 at hF
  obtain ⟨hx, hb, -, hown, -, hts, -⟩ := id C0
  refine lv_iconst (v := (0 : Int32)) hx hb dX10_readingAt_0 (by decide) ?_
  refine lv_istore (lv' := [(4, .int (0 : Int32)), (0, .ref (ad x0)), (1, .int x1), (2, .int x2), (3, .int x3)]) hx hb dX10_readingAt_1 hl (by decide) rfl (fun ls hl => ?_)
  refine lv_iconst (v := (0 : Int32)) hx hb dX10_readingAt_3 (by decide) ?_
  refine lv_istore (lv' := [(5, .int (0 : Int32)), (4, .int (0 : Int32)), (0, .ref (ad x0)), (1, .int x1), (2, .int x2), (3, .int x3)]) hx hb dX10_readingAt_4 hl (by decide) rfl (fun ls hl => ?_)
  exact Kh0 _ _ _ _ _ _ (Option.some.inj hF).symm _ (lv_sub hl [2, 3, 4, 5, 1, 0] rfl)
set_option maxHeartbeats 4000000 in
set_option maxRecDepth 100000 in
theorem wX10_readingAt_41 {p : Program} {l : Launch} {e : Env} {s : State} {m : MethodId} {args : Array Value} {below : List Frame} {meth : Method} {c : Code} {D : va_G} {cy : Nat → ClassId} (ad : Nat → Nat) (A : Nat → Prop) {S : MS} {r : Int32} {out : ((Nat × Int32 × Int32 × Int32 × Int32 × Int32) ⊕ Int32)} {ls : Array Slot} {x0 : Nat} {x1 : Int32} {x2 : Int32} {x3 : Int32} {x4 : Int32} {x5 : Int32} (C0 : CX p s m args meth c RX10 cX10_readingAt 7 D cy) (M : MW D cy ad A S s.heap) (hr : meth.sig.returnType = some .int) (hF : bX10_readingAt_41 S x0 x1 x2 x3 x4 x5 = some out) (hl : lv_has ls 7 [(0, .ref (ad x0)), (1, .int x1), (2, .int x2), (3, .int x3), (4, .int x4), (5, .int x5)]) (Kr : ∀ r9, out = .inr r9 → r9 = r) (Kh0 : ∀ (y0 : Nat) (y1 : Int32) (y2 : Int32) (y3 : Int32) (y4 : Int32) (y5 : Int32), out = .inl (y0, y1, y2, y3, y4, y5) → ∀ (ls1 : Array Slot), lv_has ls1 7 [(0, .ref (ad y0)), (1, .int y1), (2, .int y2), (3, .int y3), (4, .int y4), (5, .int y5)] → W p l e rmX10_readingAt s m args below meth c s.heap [] 0 0 (MQ below (QcS (some (.int r))) args s 0 0 (fun _ => False)) (F0 m 6 ls1 [])) : W p l e rmX10_readingAt s m args below meth c s.heap [] 0 0 (MQ below (QcS (some (.int r))) args s 0 0 (fun _ => False)) (F0 m 41 ls []) := by
  unfold bX10_readingAt_41 at hF
  obtain ⟨hx, hb, -, hown, -, hts, -⟩ := id C0
  obtain ⟨v41, hv, hF⟩ := ob hF
  refine lv_iinc (v := v41) (lv' := [(5, .int v41), (0, .ref (ad x0)), (1, .int x1), (2, .int x2), (3, .int x3), (4, .int x4)]) hx hb dX10_readingAt_41 hl (k := 5) rfl (by rw [← vtI hv]; rfl) (by decide) rfl (fun ls hl => ?_)
  refine lv_goto (tgt := 6) hx hb dX10_readingAt_44 (by decide) ?_
  exact Kh0 _ _ _ _ _ _ (Option.some.inj hF).symm _ (lv_sub hl [1, 2, 3, 4, 5, 0] rfl)
set_option maxHeartbeats 4000000 in
set_option maxRecDepth 100000 in
theorem wX10_readingAt_57 {p : Program} {l : Launch} {e : Env} {s : State} {m : MethodId} {args : Array Value} {below : List Frame} {meth : Method} {c : Code} {D : va_G} {cy : Nat → ClassId} (ad : Nat → Nat) (A : Nat → Prop) {S : MS} {r : Int32} {out : ((Nat × Int32 × Int32 × Int32 × Int32 × Int32) ⊕ Int32)} {ls : Array Slot} {z0 : Int32} (C0 : CX p s m args meth c RX10 cX10_readingAt 7 D cy) (M : MW D cy ad A S s.heap) (hr : meth.sig.returnType = some .int) (hF : bX10_readingAt_57 S z0 = some out) (hl : lv_has ls 7 []) (Kr : ∀ r9, out = .inr r9 → r9 = r) (Kh0 : ∀ (y0 : Nat) (y1 : Int32) (y2 : Int32) (y3 : Int32) (y4 : Int32) (y5 : Int32), out = .inl (y0, y1, y2, y3, y4, y5) → ∀ (ls1 : Array Slot), lv_has ls1 7 [(0, .ref (ad y0)), (1, .int y1), (2, .int y2), (3, .int y3), (4, .int y4), (5, .int y5)] → W p l e rmX10_readingAt s m args below meth c s.heap [] 0 0 (MQ below (QcS (some (.int r))) args s 0 0 (fun _ => False)) (F0 m 6 ls1 [])) : W p l e rmX10_readingAt s m args below meth c s.heap [] 0 0 (MQ below (QcS (some (.int r))) args s 0 0 (fun _ => False)) (F0 m 57 ls [.int z0]) := by
  unfold bX10_readingAt_57 at hF
  obtain ⟨hx, hb, -, hown, -, hts, -⟩ := id C0
  obtain rfl := (Kr _ (Option.some.inj hF).symm)
  exact rt_SI C0 hr dX10_readingAt_57
set_option maxHeartbeats 4000000 in
set_option maxRecDepth 100000 in
theorem wX10_readingAt_6 {p : Program} {l : Launch} {e : Env} {s : State} {m : MethodId} {args : Array Value} {below : List Frame} {meth : Method} {c : Code} {D : va_G} {cy : Nat → ClassId} (ad : Nat → Nat) (A : Nat → Prop) {S : MS} {r : Int32} {out : ((Nat × Int32 × Int32 × Int32 × Int32 × Int32) ⊕ Int32)} {ls : Array Slot} {x0 : Nat} {x1 : Int32} {x2 : Int32} {x3 : Int32} {x4 : Int32} {x5 : Int32} (C0 : CX p s m args meth c RX10 cX10_readingAt 7 D cy) (M : MW D cy ad A S s.heap) (hr : meth.sig.returnType = some .int) (hF : bX10_readingAt_6 S x0 x1 x2 x3 x4 x5 = some out) (hl : lv_has ls 7 [(0, .ref (ad x0)), (1, .int x1), (2, .int x2), (3, .int x3), (4, .int x4), (5, .int x5)]) (Kr : ∀ r9, out = .inr r9 → r9 = r) (Kh0 : ∀ (y0 : Nat) (y1 : Int32) (y2 : Int32) (y3 : Int32) (y4 : Int32) (y5 : Int32), out = .inl (y0, y1, y2, y3, y4, y5) → ∀ (ls1 : Array Slot), lv_has ls1 7 [(0, .ref (ad y0)), (1, .int y1), (2, .int y2), (3, .int y3), (4, .int y4), (5, .int y5)] → W p l e rmX10_readingAt s m args below meth c s.heap [] 0 0 (MQ below (QcS (some (.int r))) args s 0 0 (fun _ => False)) (F0 m 6 ls1 [])) : W p l e rmX10_readingAt s m args below meth c s.heap [] 0 0 (MQ below (QcS (some (.int r))) args s 0 0 (fun _ => False)) (F0 m 6 ls []) := by
  unfold bX10_readingAt_6 at hF
  obtain ⟨hx, hb, -, hown, -, hts, -⟩ := id C0
  refine lv_iload hx hb dX10_readingAt_6 (lv_at hl 5 rfl) ?_
  refine lv_sipush (v := (10000 : Int32)) hx hb dX10_readingAt_8 (by decide) ?_
  refine lv_icmp_ge (tgt := 47) hx hb dX10_readingAt_11 (by decide) (fun hc => ?_) (fun hc => ?_)
  · have hF := oi_t hc hF
    refine lv_iload_n hx hb dX10_readingAt_47 rfl (lv_at hl 3 rfl) ?_
    refine lv_if_ge (tgt := 56) hx hb dX10_readingAt_48 (by decide) (fun hc => ?_) (fun hc => ?_)
    · have hF := oi_t hc hF
      refine lv_iconst (v := (-1 : Int32)) hx hb dX10_readingAt_56 (by decide) ?_
      exact wX10_readingAt_57 ad A C0 M hr hF (lv_sub hl [] rfl) Kr Kh0
    · have hF := oi_f hc hF
      refine lv_iload hx hb dX10_readingAt_51 (lv_at hl 4 rfl) ?_
      refine lv_goto (tgt := 57) hx hb dX10_readingAt_53 (by decide) ?_
      exact wX10_readingAt_57 ad A C0 M hr hF (lv_sub hl [] rfl) Kr Kh0
  · have hF := oi_f hc hF
    refine lv_aload_n hx hb dX10_readingAt_14 rfl (lv_at hl 0 rfl) ?_
    refine lv_iload_n hx hb dX10_readingAt_15 rfl (lv_at hl 1 rfl) ?_
    refine lv_iload_n hx hb dX10_readingAt_16 rfl (lv_at hl 2 rfl) ?_
    refine lv_iload hx hb dX10_readingAt_17 (lv_at hl 5 rfl) ?_
    obtain ⟨_, hrec, hF⟩ := ob hF
    obtain ⟨v19, hcl, hF⟩ := ob hF
    refine go_SI (r_V (rest := []) (As := [.int x1, .int x2, .int x5]) C0 cb_X10_208 M hrec (tX10_readingOf l D cy ad A hcl) (pre_R C0 M) hl dX10_readingAt_19 rfl (Nat.le_of_ble_eq_true rfl) ⟨rfl, rfl⟩ ⟨Nat.le_of_ble_eq_true rfl, Nat.le_of_ble_eq_true rfl⟩ ⟨Nat.le_of_ble_eq_true rfl, Nat.le_of_ble_eq_true rfl⟩ rfl) ?_
    refine lv_istore (lv' := [(6, .int v19), (0, .ref (ad x0)), (1, .int x1), (2, .int x2), (3, .int x3), (4, .int x4), (5, .int x5)]) hx hb dX10_readingAt_22 hl (by decide) rfl (fun ls hl => ?_)
    refine lv_iload hx hb dX10_readingAt_24 (lv_at hl 0 rfl) ?_
    refine lv_if_lt (tgt := 41) hx hb dX10_readingAt_26 (by decide) (fun hc => ?_) (fun hc => ?_)
    · have hF := oi_t hc hF
      exact wX10_readingAt_41 ad A C0 M hr hF (lv_sub hl [1, 2, 3, 4, 5, 6] rfl) Kr Kh0
    · have hF := oi_f hc hF
      refine lv_iload hx hb dX10_readingAt_29 (lv_at hl 5 rfl) ?_
      refine lv_iload_n hx hb dX10_readingAt_31 rfl (lv_at hl 4 rfl) ?_
      refine lv_icmp_ne (tgt := 38) hx hb dX10_readingAt_32 (by decide) (fun hc => ?_) (fun hc => ?_)
      · have hF := oi_f hc hF
        obtain ⟨v38, hv, hF⟩ := ob hF
        refine lv_iinc (v := v38) (lv' := [(4, .int v38), (6, .int v19), (0, .ref (ad x0)), (1, .int x1), (2, .int x2), (3, .int x3), (5, .int x5)]) hx hb dX10_readingAt_38 hl (k := 5) rfl (by rw [← vtI hv]; rfl) (by decide) rfl (fun ls hl => ?_)
        exact wX10_readingAt_41 ad A C0 M hr hF (lv_sub hl [2, 3, 4, 5, 0, 6] rfl) Kr Kh0
      · have hF := oi_t hc hF
        refine lv_iload hx hb dX10_readingAt_35 (lv_at hl 0 rfl) ?_
        obtain rfl := (Kr _ (Option.some.inj hF).symm)
        exact rt_SI C0 hr dX10_readingAt_37
set_option maxHeartbeats 4000000 in
set_option maxRecDepth 100000 in
theorem tX10_readingAt (l : Launch) (D : va_G) (cy : Nat → ClassId) (ad : Nat → Nat) (A : Nat → Prop) {S : MS} {a0 : Nat} {a1 : Int32} {a2 : Int32} {a3 : Int32} {r : Int32} (h : fX10_readingAt S a0 a1 a2 a3 = some r) : Met l yX10_readingAt [Cond.code yX10_readingAt cX10_readingAt 7 (some .int)] rmX10_readingAt (PcR D cy ad A S [.ref (ad a0), .int a1, .int a2, .int a3]) (QcS (some (.int r))) 0 0 (fun _ => False) := by
  refine met_R (by decide +kernel) cw_X10_readingAt (Nat.le_of_ble_eq_true rfl) ?_
  intro p e s m args below meth c ls C0 M hr hl
  have hl : lv_has ls 7 [(0, .ref (ad a0)), (1, .int a1), (2, .int a2), (3, .int a3)] := hl
  have key := lim_walk (step := sX10_readingAt S) (fun (q : (Nat × Int32 × Int32 × Int32 × Int32 × Int32)) (r9 : Int32) => ∀ (r : Int32), r9 = r → ((∀ (y0 : Nat) (y1 : Int32) (y2 : Int32) (y3 : Int32) (y4 : Int32) (y5 : Int32), q = (y0, y1, y2, y3, y4, y5) → ∀ (ls1 : Array Slot), lv_has ls1 7 [(0, .ref (ad y0)), (1, .int y1), (2, .int y2), (3, .int y3), (4, .int y4), (5, .int y5)] → W p l e rmX10_readingAt s m args below meth c s.heap [] 0 0 (MQ below (QcS (some (.int r))) args s 0 0 (fun _ => False)) (F0 m 6 ls1 [])))) ?_
  · unfold fX10_readingAt at h
    cases hs0 : bX10_readingAt_0 S a0 a1 a2 a3 with
    | none => rw [hs0] at h; cases h
    | some out =>
      rw [hs0] at h
      refine wX10_readingAt_0 ad A C0 M hr hs0 hl (fun r9 hr9 => ?_) ?_
      · subst hr9; exact Option.some.inj h
      · intro y0 y1 y2 y3 y4 y5 hq; subst hq; exact (key _ _ h _ rfl) _ _ _ _ _ _ rfl
  · intro q r9 out hst hre hin9
    intro r er; subst er
    refine ?_
    · intro y0 y1 y2 y3 y4 y5 hq ls1 hl
      subst hq
      exact wX10_readingAt_6 ad A C0 M hr hst hl hre (fun k0 k1 k2 k3 k4 k5 hk => (hin9 _ hk _ rfl) _ _ _ _ _ _ rfl)
set_option maxHeartbeats 4000000 in
set_option maxRecDepth 100000 in
theorem wX10_reading_12 {p : Program} {l : Launch} {e : Env} {s : State} {m : MethodId} {args : Array Value} {below : List Frame} {meth : Method} {c : Code} {D : va_G} {cy : Nat → ClassId} (ad : Nat → Nat) (A : Nat → Prop) {S : MS} {r : Int32} {ls : Array Slot} (C0 : CX p s m args meth c RX10 cX10_reading 4 D cy) (M : MW D cy ad A S s.heap) (hr : meth.sig.returnType = some .int) (hF : bX10_reading_12 S = some r) (hl : lv_has ls 4 []) : W p l e rmX10_reading s m args below meth c s.heap [] 0 0 (MQ below (QcS (some (.int r))) args s 0 0 (fun _ => False)) (F0 m 12 ls []) := by
  unfold bX10_reading_12 at hF
  obtain ⟨hx, hb, -, hown, -, hts, -⟩ := id C0
  refine lv_iconst (v := (-1 : Int32)) hx hb dX10_reading_12 (by decide) ?_
  obtain rfl := (Option.some.inj hF)
  exact rt_SI C0 hr dX10_reading_13
set_option maxHeartbeats 4000000 in
set_option maxRecDepth 100000 in
theorem wX10_reading_38 {p : Program} {l : Launch} {e : Env} {s : State} {m : MethodId} {args : Array Value} {below : List Frame} {meth : Method} {c : Code} {D : va_G} {cy : Nat → ClassId} (ad : Nat → Nat) (A : Nat → Prop) {S : MS} {r : Int32} {ls : Array Slot} {z0 : Int32} (C0 : CX p s m args meth c RX10 cX10_reading 4 D cy) (M : MW D cy ad A S s.heap) (hr : meth.sig.returnType = some .int) (hF : bX10_reading_38 S z0 = some r) (hl : lv_has ls 4 []) : W p l e rmX10_reading s m args below meth c s.heap [] 0 0 (MQ below (QcS (some (.int r))) args s 0 0 (fun _ => False)) (F0 m 38 ls [.int z0]) := by
  unfold bX10_reading_38 at hF
  obtain ⟨hx, hb, -, hown, -, hts, -⟩ := id C0
  obtain rfl := (Option.some.inj hF)
  exact rt_SI C0 hr dX10_reading_38
set_option maxHeartbeats 4000000 in
set_option maxRecDepth 100000 in
theorem wX10_reading_0 {p : Program} {l : Launch} {e : Env} {s : State} {m : MethodId} {args : Array Value} {below : List Frame} {meth : Method} {c : Code} {D : va_G} {cy : Nat → ClassId} (ad : Nat → Nat) (A : Nat → Prop) {S : MS} {r : Int32} {ls : Array Slot} {x0 : Nat} {x1 : Int32} {x2 : Int32} {x3 : Int32} (C0 : CX p s m args meth c RX10 cX10_reading 4 D cy) (M : MW D cy ad A S s.heap) (hr : meth.sig.returnType = some .int) (hF : bX10_reading_0 S x0 x1 x2 x3 = some r) (hl : lv_has ls 4 [(0, .ref (ad x0)), (1, .int x1), (2, .int x2), (3, .int x3)]) : W p l e rmX10_reading s m args below meth c s.heap [] 0 0 (MQ below (QcS (some (.int r))) args s 0 0 (fun _ => False)) (F0 m 0 ls []) := by
  unfold bX10_reading_0 at hF
  obtain ⟨hx, hb, -, hown, -, hts, -⟩ := id C0
  refine lv_aload_n hx hb dX10_reading_0 rfl (lv_at hl 0 rfl) ?_
  refine lv_iload_n hx hb dX10_reading_1 rfl (lv_at hl 1 rfl) ?_
  obtain ⟨_, hrec, hF⟩ := ob hF
  obtain ⟨v2, hcl, hF⟩ := ob hF
  refine go_SI (r_V (rest := []) (As := [.int x1]) C0 cb_X10_234 M hrec (tX10_noWire l D cy ad A hcl) (pre_R C0 M) hl dX10_reading_2 rfl (Nat.le_of_ble_eq_true rfl) ⟨rfl, rfl⟩ ⟨Nat.le_of_ble_eq_true rfl, Nat.le_of_ble_eq_true rfl⟩ ⟨Nat.le_of_ble_eq_true rfl, Nat.le_of_ble_eq_true rfl⟩ rfl) ?_
  refine lv_if_ne (tgt := 12) hx hb dX10_reading_5 (by decide) (fun hc => ?_) (fun hc => ?_)
  · have hF := oi_f hc hF
    exact wX10_reading_12 ad A C0 M hr hF (lv_sub hl [] rfl)
  · have hF := oi_t hc hF
    refine lv_iload_n hx hb dX10_reading_8 rfl (lv_at hl 3 rfl) ?_
    refine lv_if_ge (tgt := 14) hx hb dX10_reading_9 (by decide) (fun hc => ?_) (fun hc => ?_)
    · have hF := oi_t hc hF
      refine lv_iload_n hx hb dX10_reading_14 rfl (lv_at hl 2 rfl) ?_
      refine lv_i2l (v := (x2.toInt64)) hx hb dX10_reading_15 rfl ?_
      refine lv_lconst (v := (0 : Int64)) hx hb dX10_reading_16 (by decide) ?_
      refine lv_ldc2 (v := (2 : Int64)) hx hb hown (hts _ (uw_of 1250 (by decide +kernel) rfl)) dX10_reading_17 ?_
      obtain ⟨v20, hcl, hF⟩ := ob hF
      refine go_SI (r_S (rest := []) (As := [.long (x2.toInt64), .long (0 : Int64), .long (2 : Int64)]) C0 cb_X10_156 (tX10_in l D cy ad hcl) (pre_S C0) hl dX10_reading_20 rfl (Nat.le_of_ble_eq_true rfl) ⟨rfl, rfl⟩ ⟨Nat.le_of_ble_eq_true rfl, Nat.le_of_ble_eq_true rfl⟩ ⟨Nat.le_of_ble_eq_true rfl, Nat.le_of_ble_eq_true rfl⟩ rfl) ?_
      refine lv_if_eq (tgt := 36) hx hb dX10_reading_23 (by decide) (fun hc => ?_) (fun hc => ?_)
      · have hF := oi_t hc hF
        refine lv_bipush (v := (-2 : Int32)) hx hb dX10_reading_36 (by decide) ?_
        exact wX10_reading_38 ad A C0 M hr hF (lv_sub hl [] rfl)
      · have hF := oi_f hc hF
        refine lv_aload_n hx hb dX10_reading_26 rfl (lv_at hl 0 rfl) ?_
        refine lv_iload_n hx hb dX10_reading_27 rfl (lv_at hl 1 rfl) ?_
        refine lv_iload_n hx hb dX10_reading_28 rfl (lv_at hl 2 rfl) ?_
        refine lv_iload_n hx hb dX10_reading_29 rfl (lv_at hl 3 rfl) ?_
        obtain ⟨_, hrec, hF⟩ := ob hF
        obtain ⟨v30, hcl, hF⟩ := ob hF
        refine go_SI (r_V (rest := []) (As := [.int x1, .int x2, .int x3]) C0 cb_X10_231 M hrec (tX10_readingAt l D cy ad A hcl) (pre_R C0 M) hl dX10_reading_30 rfl (Nat.le_of_ble_eq_true rfl) ⟨rfl, rfl⟩ ⟨Nat.le_of_ble_eq_true rfl, Nat.le_of_ble_eq_true rfl⟩ ⟨Nat.le_of_ble_eq_true rfl, Nat.le_of_ble_eq_true rfl⟩ rfl) ?_
        refine lv_goto (tgt := 38) hx hb dX10_reading_33 (by decide) ?_
        exact wX10_reading_38 ad A C0 M hr hF (lv_sub hl [] rfl)
    · have hF := oi_f hc hF
      exact wX10_reading_12 ad A C0 M hr hF (lv_sub hl [] rfl)
set_option maxHeartbeats 4000000 in
set_option maxRecDepth 100000 in
theorem tX10_reading (l : Launch) (D : va_G) (cy : Nat → ClassId) (ad : Nat → Nat) (A : Nat → Prop) {S : MS} {a0 : Nat} {a1 : Int32} {a2 : Int32} {a3 : Int32} {r : Int32} (h : fX10_reading S a0 a1 a2 a3 = some r) : Met l yX10_reading [Cond.code yX10_reading cX10_reading 4 (some .int)] rmX10_reading (PcR D cy ad A S [.ref (ad a0), .int a1, .int a2, .int a3]) (QcS (some (.int r))) 0 0 (fun _ => False) := by
  refine met_R (by decide +kernel) cw_X10_reading (Nat.le_of_ble_eq_true rfl) ?_
  intro p e s m args below meth c ls C0 M hr hl
  have hl : lv_has ls 4 [(0, .ref (ad a0)), (1, .int a1), (2, .int a2), (3, .int a3)] := hl
  exact wX10_reading_0 ad A C0 M hr h hl
set_option maxHeartbeats 4000000 in
set_option maxRecDepth 100000 in
theorem wX10_readings_34 {p : Program} {l : Launch} {e : Env} {s : State} {m : MethodId} {args : Array Value} {below : List Frame} {meth : Method} {c : Code} {D : va_G} {cy : Nat → ClassId} (ad : Nat → Nat) (A : Nat → Prop) {S : MS} {r : Int32} {ls : Array Slot} {z0 : Int32} (C0 : CX p s m args meth c RX10 cX10_readings 3 D cy) (M : MW D cy ad A S s.heap) (hr : meth.sig.returnType = some .int) (hF : bX10_readings_34 S z0 = some r) (hl : lv_has ls 3 []) : W p l e rmX10_readings s m args below meth c s.heap [] 0 0 (MQ below (QcS (some (.int r))) args s 0 0 (fun _ => False)) (F0 m 34 ls [.int z0]) := by
  unfold bX10_readings_34 at hF
  obtain ⟨hx, hb, -, hown, -, hts, -⟩ := id C0
  obtain rfl := (Option.some.inj hF)
  exact rt_SI C0 hr dX10_readings_34
set_option maxHeartbeats 4000000 in
set_option maxRecDepth 100000 in
theorem wX10_readings_0 {p : Program} {l : Launch} {e : Env} {s : State} {m : MethodId} {args : Array Value} {below : List Frame} {meth : Method} {c : Code} {D : va_G} {cy : Nat → ClassId} (ad : Nat → Nat) (A : Nat → Prop) {S : MS} {r : Int32} {ls : Array Slot} {x0 : Nat} {x1 : Int32} {x2 : Int32} (C0 : CX p s m args meth c RX10 cX10_readings 3 D cy) (M : MW D cy ad A S s.heap) (hr : meth.sig.returnType = some .int) (hF : bX10_readings_0 S x0 x1 x2 = some r) (hl : lv_has ls 3 [(0, .ref (ad x0)), (1, .int x1), (2, .int x2)]) : W p l e rmX10_readings s m args below meth c s.heap [] 0 0 (MQ below (QcS (some (.int r))) args s 0 0 (fun _ => False)) (F0 m 0 ls []) := by
  unfold bX10_readings_0 at hF
  obtain ⟨hx, hb, -, hown, -, hts, -⟩ := id C0
  refine lv_aload_n hx hb dX10_readings_0 rfl (lv_at hl 0 rfl) ?_
  refine lv_iload_n hx hb dX10_readings_1 rfl (lv_at hl 1 rfl) ?_
  obtain ⟨_, hrec, hF⟩ := ob hF
  obtain ⟨v2, hcl, hF⟩ := ob hF
  refine go_SI (r_V (rest := []) (As := [.int x1]) C0 cb_X10_234 M hrec (tX10_noWire l D cy ad A hcl) (pre_R C0 M) hl dX10_readings_2 rfl (Nat.le_of_ble_eq_true rfl) ⟨rfl, rfl⟩ ⟨Nat.le_of_ble_eq_true rfl, Nat.le_of_ble_eq_true rfl⟩ ⟨Nat.le_of_ble_eq_true rfl, Nat.le_of_ble_eq_true rfl⟩ rfl) ?_
  refine lv_if_eq (tgt := 10) hx hb dX10_readings_5 (by decide) (fun hc => ?_) (fun hc => ?_)
  · have hF := oi_t hc hF
    refine lv_iload_n hx hb dX10_readings_10 rfl (lv_at hl 2 rfl) ?_
    refine lv_i2l (v := (x2.toInt64)) hx hb dX10_readings_11 rfl ?_
    refine lv_lconst (v := (0 : Int64)) hx hb dX10_readings_12 (by decide) ?_
    refine lv_ldc2 (v := (2 : Int64)) hx hb hown (hts _ (uw_of 1250 (by decide +kernel) rfl)) dX10_readings_13 ?_
    obtain ⟨v16, hcl, hF⟩ := ob hF
    refine go_SI (r_S (rest := []) (As := [.long (x2.toInt64), .long (0 : Int64), .long (2 : Int64)]) C0 cb_X10_156 (tX10_in l D cy ad hcl) (pre_S C0) hl dX10_readings_16 rfl (Nat.le_of_ble_eq_true rfl) ⟨rfl, rfl⟩ ⟨Nat.le_of_ble_eq_true rfl, Nat.le_of_ble_eq_true rfl⟩ ⟨Nat.le_of_ble_eq_true rfl, Nat.le_of_ble_eq_true rfl⟩ rfl) ?_
    refine lv_if_eq (tgt := 32) hx hb dX10_readings_19 (by decide) (fun hc => ?_) (fun hc => ?_)
    · have hF := oi_t hc hF
      refine lv_bipush (v := (-2 : Int32)) hx hb dX10_readings_32 (by decide) ?_
      exact wX10_readings_34 ad A C0 M hr hF (lv_sub hl [] rfl)
    · have hF := oi_f hc hF
      refine lv_aload_n hx hb dX10_readings_22 rfl (lv_at hl 0 rfl) ?_
      refine lv_iload_n hx hb dX10_readings_23 rfl (lv_at hl 1 rfl) ?_
      refine lv_iload_n hx hb dX10_readings_24 rfl (lv_at hl 2 rfl) ?_
      refine lv_iconst (v := (-1 : Int32)) hx hb dX10_readings_25 (by decide) ?_
      obtain ⟨_, hrec, hF⟩ := ob hF
      obtain ⟨v26, hcl, hF⟩ := ob hF
      refine go_SI (r_V (rest := []) (As := [.int x1, .int x2, .int (-1 : Int32)]) C0 cb_X10_231 M hrec (tX10_readingAt l D cy ad A hcl) (pre_R C0 M) hl dX10_readings_26 rfl (Nat.le_of_ble_eq_true rfl) ⟨rfl, rfl⟩ ⟨Nat.le_of_ble_eq_true rfl, Nat.le_of_ble_eq_true rfl⟩ ⟨Nat.le_of_ble_eq_true rfl, Nat.le_of_ble_eq_true rfl⟩ rfl) ?_
      refine lv_goto (tgt := 34) hx hb dX10_readings_29 (by decide) ?_
      exact wX10_readings_34 ad A C0 M hr hF (lv_sub hl [] rfl)
  · have hF := oi_f hc hF
    refine lv_iconst (v := (-1 : Int32)) hx hb dX10_readings_8 (by decide) ?_
    obtain rfl := (Option.some.inj hF)
    exact rt_SI C0 hr dX10_readings_9
set_option maxHeartbeats 4000000 in
set_option maxRecDepth 100000 in
theorem tX10_readings (l : Launch) (D : va_G) (cy : Nat → ClassId) (ad : Nat → Nat) (A : Nat → Prop) {S : MS} {a0 : Nat} {a1 : Int32} {a2 : Int32} {r : Int32} (h : fX10_readings S a0 a1 a2 = some r) : Met l yX10_readings [Cond.code yX10_readings cX10_readings 3 (some .int)] rmX10_readings (PcR D cy ad A S [.ref (ad a0), .int a1, .int a2]) (QcS (some (.int r))) 0 0 (fun _ => False) := by
  refine met_R (by decide +kernel) cw_X10_readings (Nat.le_of_ble_eq_true rfl) ?_
  intro p e s m args below meth c ls C0 M hr hl
  have hl : lv_has ls 3 [(0, .ref (ad a0)), (1, .int a1), (2, .int a2)] := hl
  exact wX10_readings_0 ad A C0 M hr h hl
set_option maxHeartbeats 4000000 in
set_option maxRecDepth 100000 in
theorem wX10_sheet_31 {p : Program} {l : Launch} {e : Env} {s : State} {m : MethodId} {args : Array Value} {below : List Frame} {meth : Method} {c : Code} {D : va_G} {cy : Nat → ClassId} (ad : Nat → Nat) (A : Nat → Prop) {S : MS} {S' : MS} {H : Heap} {locs : List Loc} {n0 : Nat} {r : Int32} {out : ((Nat × Int32 × Int32 × Int32 × MS) ⊕ (Int32 × MS))} {ls : Array Slot} {x0 : Nat} (C0 : CX p s m args meth c RX10 cX10_sheet 5 D cy) (M : ST D cy ad A s.heap (ZN n0 s.heap.size) S H locs) (hr : meth.sig.returnType = some .int) (hF : bX10_sheet_31 S x0 = some out) (hl : lv_has ls 5 [(0, .ref (ad x0))]) (Kr : ∀ r9, out = .inr r9 → r9 = (r, S')) (Kh0 : ∀ (y0 : Nat) (y1 : Int32) (y2 : Int32) (y3 : Int32) (S2 : MS), out = .inl (y0, y1, y2, y3, S2) → ∀ (H1 : Heap) (locs1 : List Loc) (ls1 : Array Slot), ST D cy ad A s.heap (ZN n0 s.heap.size) S2 H1 locs1 → lv_has ls1 5 [(0, .ref (ad y0)), (1, .int y1), (3, .int y2), (4, .int y3)] → W p l e rmX10_sheet s m args below meth c H1 locs1 0 0 (MQ below (QcM D cy ad A n0 S' (some (.int r))) args s 0 0 A) (F0 m 65 ls1 [])) : W p l e rmX10_sheet s m args below meth c H locs 0 0 (MQ below (QcM D cy ad A n0 S' (some (.int r))) args s 0 0 A) (F0 m 31 ls []) := by
  unfold bX10_sheet_31 at hF
  obtain ⟨hx, hb, -, hown, -, hts, -⟩ := id C0
  refine lv_aload_n hx hb dX10_sheet_31 rfl (lv_at hl 0 rfl) ?_
  refine lv_bipush (v := (-2 : Int32)) hx hb dX10_sheet_32 (by decide) ?_
  obtain ⟨_, hrec, hF⟩ := ob hF
  obtain ⟨v34, S34, hcl, hF⟩ := ob2 hF
  refine go_MI (r_V (rest := []) (As := [.int (-2 : Int32)]) C0 cb_X10_215 M.1 hrec (tX10_refused l D cy ad A hcl) (pre_R C0 M.1) hl dX10_sheet_34 rfl (Nat.le_of_ble_eq_true rfl) ⟨rfl, rfl⟩ ⟨Nat.le_of_ble_eq_true rfl, Nat.le_of_ble_eq_true rfl⟩ ⟨Nat.le_of_ble_eq_true rfl, Nat.le_of_ble_eq_true rfl⟩ rfl) M (fun H locs M => ?_)
  obtain ⟨rfl, rfl⟩ := Prod.mk.inj (Kr _ (Option.some.inj hF).symm)
  exact rt_MI C0 M hr dX10_sheet_37
set_option maxHeartbeats 4000000 in
set_option maxRecDepth 100000 in
theorem wX10_sheet_0 {p : Program} {l : Launch} {e : Env} {s : State} {m : MethodId} {args : Array Value} {below : List Frame} {meth : Method} {c : Code} {D : va_G} {cy : Nat → ClassId} (ad : Nat → Nat) (A : Nat → Prop) {S : MS} {S' : MS} {H : Heap} {locs : List Loc} {n0 : Nat} {r : Int32} {out : ((Nat × Int32 × Int32 × Int32 × MS) ⊕ (Int32 × MS))} {ls : Array Slot} {x0 : Nat} {x1 : Int32} {x2 : Int32} {x3 : Int32} (C0 : CX p s m args meth c RX10 cX10_sheet 5 D cy) (M : ST D cy ad A s.heap (ZN n0 s.heap.size) S H locs) (hr : meth.sig.returnType = some .int) (hF : bX10_sheet_0 S x0 x1 x2 x3 = some out) (hl : lv_has ls 5 [(0, .ref (ad x0)), (1, .int x1), (2, .int x2), (3, .int x3)]) (Kr : ∀ r9, out = .inr r9 → r9 = (r, S')) (Kh0 : ∀ (y0 : Nat) (y1 : Int32) (y2 : Int32) (y3 : Int32) (S2 : MS), out = .inl (y0, y1, y2, y3, S2) → ∀ (H1 : Heap) (locs1 : List Loc) (ls1 : Array Slot), ST D cy ad A s.heap (ZN n0 s.heap.size) S2 H1 locs1 → lv_has ls1 5 [(0, .ref (ad y0)), (1, .int y1), (3, .int y2), (4, .int y3)] → W p l e rmX10_sheet s m args below meth c H1 locs1 0 0 (MQ below (QcM D cy ad A n0 S' (some (.int r))) args s 0 0 A) (F0 m 65 ls1 [])) : W p l e rmX10_sheet s m args below meth c H locs 0 0 (MQ below (QcM D cy ad A n0 S' (some (.int r))) args s 0 0 A) (F0 m 0 ls []) := by
  unfold bX10_sheet_0 at hF
  obtain ⟨hx, hb, -, hown, -, hts, -⟩ := id C0
  refine lv_iload_n hx hb dX10_sheet_0 rfl (lv_at hl 1 rfl) ?_
  obtain ⟨v1, hcl, hF⟩ := ob hF
  refine go_SI (r_S (rest := []) (As := [.int x1]) C0 cb_X10_212 (tX10_noSheet l D cy ad hcl) (pre_S C0) hl dX10_sheet_1 rfl (Nat.le_of_ble_eq_true rfl) ⟨rfl, rfl⟩ ⟨Nat.le_of_ble_eq_true rfl, Nat.le_of_ble_eq_true rfl⟩ ⟨Nat.le_of_ble_eq_true rfl, Nat.le_of_ble_eq_true rfl⟩ rfl) ?_
  refine lv_if_eq (tgt := 13) hx hb dX10_sheet_4 (by decide) (fun hc => ?_) (fun hc => ?_)
  · have hF := oi_t hc hF
    refine lv_iload_n hx hb dX10_sheet_13 rfl (lv_at hl 2 rfl) ?_
    refine lv_i2l (v := (x2.toInt64)) hx hb dX10_sheet_14 rfl ?_
    refine lv_lconst (v := (0 : Int64)) hx hb dX10_sheet_15 (by decide) ?_
    refine lv_ldc2 (v := (2 : Int64)) hx hb hown (hts _ (uw_of 1250 (by decide +kernel) rfl)) dX10_sheet_16 ?_
    obtain ⟨v19, hcl, hF⟩ := ob hF
    refine go_SI (r_S (rest := []) (As := [.long (x2.toInt64), .long (0 : Int64), .long (2 : Int64)]) C0 cb_X10_156 (tX10_in l D cy ad hcl) (pre_S C0) hl dX10_sheet_19 rfl (Nat.le_of_ble_eq_true rfl) ⟨rfl, rfl⟩ ⟨Nat.le_of_ble_eq_true rfl, Nat.le_of_ble_eq_true rfl⟩ ⟨Nat.le_of_ble_eq_true rfl, Nat.le_of_ble_eq_true rfl⟩ rfl) ?_
    refine lv_if_eq (tgt := 31) hx hb dX10_sheet_22 (by decide) (fun hc => ?_) (fun hc => ?_)
    · have hF := oi_t hc hF
      exact wX10_sheet_31 ad A C0 M hr hF (lv_sub hl [0] rfl) Kr Kh0
    · have hF := oi_f hc hF
      refine lv_iload_n hx hb dX10_sheet_25 rfl (lv_at hl 3 rfl) ?_
      refine lv_bipush (v := (60 : Int32)) hx hb dX10_sheet_26 (by decide) ?_
      refine lv_icmp_le (tgt := 38) hx hb dX10_sheet_28 (by decide) (fun hc => ?_) (fun hc => ?_)
      · have hF := oi_t hc hF
        refine lv_iload_n hx hb dX10_sheet_38 rfl (lv_at hl 3 rfl) ?_
        refine lv_if_ge (tgt := 48) hx hb dX10_sheet_39 (by decide) (fun hc => ?_) (fun hc => ?_)
        · have hF := oi_t hc hF
          refine lv_aload_n hx hb dX10_sheet_48 rfl (lv_at hl 0 rfl) ?_
          obtain ⟨v49, hv, hF⟩ := ob hF
          refine k_getP C0 M.1 hv fl_X10_125 dX10_sheet_49 ?_
          refine lv_iload_n hx hb dX10_sheet_52 rfl (lv_at hl 1 rfl) ?_
          refine lv_iload_n hx hb dX10_sheet_53 rfl (lv_at hl 3 rfl) ?_
          obtain ⟨S54, hv, hF⟩ := ob hF
          refine k_st C0 M hv dX10_sheet_54 (fun H locs M => ?_)
          refine lv_aload_n hx hb dX10_sheet_55 rfl (lv_at hl 0 rfl) ?_
          obtain ⟨v56, hv, hF⟩ := ob hF
          refine k_getP C0 M.1 hv fl_X10_128 dX10_sheet_56 ?_
          refine lv_iload_n hx hb dX10_sheet_59 rfl (lv_at hl 1 rfl) ?_
          refine lv_iload_n hx hb dX10_sheet_60 rfl (lv_at hl 2 rfl) ?_
          obtain ⟨S61, hv, hF⟩ := ob hF
          refine k_st C0 M hv dX10_sheet_61 (fun H locs M => ?_)
          refine lv_iconst (v := (0 : Int32)) hx hb dX10_sheet_62 (by decide) ?_
          refine lv_istore (lv' := [(4, .int (0 : Int32)), (0, .ref (ad x0)), (1, .int x1), (2, .int x2), (3, .int x3)]) hx hb dX10_sheet_63 hl (by decide) rfl (fun ls hl => ?_)
          exact Kh0 _ _ _ _ _ (Option.some.inj hF).symm _ _ _ M (lv_sub hl [1, 2, 4, 0] rfl)
        · have hF := oi_f hc hF
          refine lv_aload_n hx hb dX10_sheet_42 rfl (lv_at hl 0 rfl) ?_
          refine lv_iconst (v := (4 : Int32)) hx hb dX10_sheet_43 (by decide) ?_
          obtain ⟨_, hrec, hF⟩ := ob hF
          obtain ⟨v44, S44, hcl, hF⟩ := ob2 hF
          refine go_MI (r_V (rest := []) (As := [.int (4 : Int32)]) C0 cb_X10_218 M.1 hrec (tX10_failed l D cy ad A hcl) (pre_R C0 M.1) hl dX10_sheet_44 rfl (Nat.le_of_ble_eq_true rfl) ⟨rfl, rfl⟩ ⟨Nat.le_of_ble_eq_true rfl, Nat.le_of_ble_eq_true rfl⟩ ⟨Nat.le_of_ble_eq_true rfl, Nat.le_of_ble_eq_true rfl⟩ rfl) M (fun H locs M => ?_)
          obtain ⟨rfl, rfl⟩ := Prod.mk.inj (Kr _ (Option.some.inj hF).symm)
          exact rt_MI C0 M hr dX10_sheet_47
      · have hF := oi_f hc hF
        exact wX10_sheet_31 ad A C0 M hr hF (lv_sub hl [0] rfl) Kr Kh0
  · have hF := oi_f hc hF
    refine lv_aload_n hx hb dX10_sheet_7 rfl (lv_at hl 0 rfl) ?_
    refine lv_iconst (v := (-1 : Int32)) hx hb dX10_sheet_8 (by decide) ?_
    obtain ⟨_, hrec, hF⟩ := ob hF
    obtain ⟨v9, S9, hcl, hF⟩ := ob2 hF
    refine go_MI (r_V (rest := []) (As := [.int (-1 : Int32)]) C0 cb_X10_215 M.1 hrec (tX10_refused l D cy ad A hcl) (pre_R C0 M.1) hl dX10_sheet_9 rfl (Nat.le_of_ble_eq_true rfl) ⟨rfl, rfl⟩ ⟨Nat.le_of_ble_eq_true rfl, Nat.le_of_ble_eq_true rfl⟩ ⟨Nat.le_of_ble_eq_true rfl, Nat.le_of_ble_eq_true rfl⟩ rfl) M (fun H locs M => ?_)
    obtain ⟨rfl, rfl⟩ := Prod.mk.inj (Kr _ (Option.some.inj hF).symm)
    exact rt_MI C0 M hr dX10_sheet_12
set_option maxHeartbeats 4000000 in
set_option maxRecDepth 100000 in
theorem wX10_sheet_65 {p : Program} {l : Launch} {e : Env} {s : State} {m : MethodId} {args : Array Value} {below : List Frame} {meth : Method} {c : Code} {D : va_G} {cy : Nat → ClassId} (ad : Nat → Nat) (A : Nat → Prop) {S : MS} {S' : MS} {H : Heap} {locs : List Loc} {n0 : Nat} {r : Int32} {out : ((Nat × Int32 × Int32 × Int32 × MS) ⊕ (Int32 × MS))} {ls : Array Slot} {x0 : Nat} {x1 : Int32} {x3 : Int32} {x4 : Int32} (C0 : CX p s m args meth c RX10 cX10_sheet 5 D cy) (M : ST D cy ad A s.heap (ZN n0 s.heap.size) S H locs) (hr : meth.sig.returnType = some .int) (hF : bX10_sheet_65 S x0 x1 x3 x4 = some out) (hl : lv_has ls 5 [(0, .ref (ad x0)), (1, .int x1), (3, .int x3), (4, .int x4)]) (Kr : ∀ r9, out = .inr r9 → r9 = (r, S')) (Kh0 : ∀ (y0 : Nat) (y1 : Int32) (y2 : Int32) (y3 : Int32) (S2 : MS), out = .inl (y0, y1, y2, y3, S2) → ∀ (H1 : Heap) (locs1 : List Loc) (ls1 : Array Slot), ST D cy ad A s.heap (ZN n0 s.heap.size) S2 H1 locs1 → lv_has ls1 5 [(0, .ref (ad y0)), (1, .int y1), (3, .int y2), (4, .int y3)] → W p l e rmX10_sheet s m args below meth c H1 locs1 0 0 (MQ below (QcM D cy ad A n0 S' (some (.int r))) args s 0 0 A) (F0 m 65 ls1 [])) : W p l e rmX10_sheet s m args below meth c H locs 0 0 (MQ below (QcM D cy ad A n0 S' (some (.int r))) args s 0 0 A) (F0 m 65 ls []) := by
  unfold bX10_sheet_65 at hF
  obtain ⟨hx, hb, -, hown, -, hts, -⟩ := id C0
  refine lv_iload hx hb dX10_sheet_65 (lv_at hl 3 rfl) ?_
  refine lv_iload_n hx hb dX10_sheet_67 rfl (lv_at hl 2 rfl) ?_
  refine lv_icmp_ge (tgt := 90) hx hb dX10_sheet_68 (by decide) (fun hc => ?_) (fun hc => ?_)
  · have hF := oi_t hc hF
    refine lv_aload_n hx hb dX10_sheet_90 rfl (lv_at hl 0 rfl) ?_
    refine lv_iconst (v := (1 : Int32)) hx hb dX10_sheet_91 (by decide) ?_
    obtain ⟨_, hrec, hF⟩ := ob hF
    obtain ⟨v92, S92, hcl, hF⟩ := ob2 hF
    refine go_MI (r_V (rest := []) (As := [.int (1 : Int32)]) C0 cb_X10_215 M.1 hrec (tX10_refused l D cy ad A hcl) (pre_R C0 M.1) hl dX10_sheet_92 rfl (Nat.le_of_ble_eq_true rfl) ⟨rfl, rfl⟩ ⟨Nat.le_of_ble_eq_true rfl, Nat.le_of_ble_eq_true rfl⟩ ⟨Nat.le_of_ble_eq_true rfl, Nat.le_of_ble_eq_true rfl⟩ rfl) M (fun H locs M => ?_)
    obtain ⟨rfl, rfl⟩ := Prod.mk.inj (Kr _ (Option.some.inj hF).symm)
    exact rt_MI C0 M hr dX10_sheet_95
  · have hF := oi_f hc hF
    refine lv_aload_n hx hb dX10_sheet_71 rfl (lv_at hl 0 rfl) ?_
    obtain ⟨v72, hv, hF⟩ := ob hF
    refine k_getP C0 M.1 hv fl_X10_131 dX10_sheet_72 ?_
    refine lv_bipush (v := (60 : Int32)) hx hb dX10_sheet_75 (by decide) ?_
    refine lv_iload_n hx hb dX10_sheet_77 rfl (lv_at hl 1 rfl) ?_
    refine lv_imul hx hb dX10_sheet_78 ?_
    refine lv_iload hx hb dX10_sheet_79 (lv_at hl 3 rfl) ?_
    refine lv_iadd hx hb dX10_sheet_81 ?_
    refine lv_iconst (v := (0 : Int32)) hx hb dX10_sheet_82 (by decide) ?_
    obtain ⟨S83, hv, hF⟩ := ob hF
    refine k_st C0 M hv dX10_sheet_83 (fun H locs M => ?_)
    obtain ⟨v84, hv, hF⟩ := ob hF
    refine lv_iinc (v := v84) (lv' := [(4, .int v84), (0, .ref (ad x0)), (1, .int x1), (3, .int x3)]) hx hb dX10_sheet_84 hl (k := 3) rfl (by rw [← vtI hv]; rfl) (by decide) rfl (fun ls hl => ?_)
    refine lv_goto (tgt := 65) hx hb dX10_sheet_87 (by decide) ?_
    exact Kh0 _ _ _ _ _ (Option.some.inj hF).symm _ _ _ M (lv_sub hl [1, 2, 3, 0] rfl)
set_option maxHeartbeats 4000000 in
set_option maxRecDepth 100000 in
theorem tX10_sheet (l : Launch) (D : va_G) (cy : Nat → ClassId) (ad : Nat → Nat) (A : Nat → Prop) {S S' : MS} {a0 : Nat} {a1 : Int32} {a2 : Int32} {a3 : Int32} {r : Int32} (h : fX10_sheet S a0 a1 a2 a3 = some (r, S')) : Met l yX10_sheet [Cond.code yX10_sheet cX10_sheet 5 (some .int)] rmX10_sheet (PcR D cy ad A S [.ref (ad a0), .int a1, .int a2, .int a3]) (QcM D cy ad A (m_n S) S' (some (.int r))) 0 0 A := by
  refine met_M (by decide +kernel) cw_X10_sheet (Nat.le_of_ble_eq_true rfl) ?_
  intro p e s m args below meth c ls C0 M hr hin hl
  have hl : lv_has ls 5 [(0, .ref (ad a0)), (1, .int a1), (2, .int a2), (3, .int a3)] := hl
  have key := lim_walk (step := sX10_sheet) (fun (q : (Nat × Int32 × Int32 × Int32 × MS)) (r9 : (Int32 × MS)) => ∀ (r : Int32) (S' : MS), r9 = (r, S') → ((∀ (y0 : Nat) (y1 : Int32) (y2 : Int32) (y3 : Int32) (S2 : MS), q = (y0, y1, y2, y3, S2) → ∀ (H1 : Heap) (locs1 : List Loc) (ls1 : Array Slot), ST D cy ad A s.heap (ZN (m_n S) s.heap.size) S2 H1 locs1 → lv_has ls1 5 [(0, .ref (ad y0)), (1, .int y1), (3, .int y2), (4, .int y3)] → W p l e rmX10_sheet s m args below meth c H1 locs1 0 0 (MQ below (QcM D cy ad A (m_n S) S' (some (.int r))) args s 0 0 A) (F0 m 65 ls1 [])))) ?_
  · unfold fX10_sheet at h
    cases hs0 : bX10_sheet_0 S a0 a1 a2 a3 with
    | none => rw [hs0] at h; cases h
    | some out =>
      rw [hs0] at h
      refine wX10_sheet_0 ad A C0 M hr hs0 hl (fun r9 hr9 => ?_) ?_
      · subst hr9; exact Option.some.inj h
      · intro y0 y1 y2 y3 y4 hq; subst hq; exact (key _ _ h _ _ rfl) _ _ _ _ _ rfl
  · intro q r9 out hst hre hin9
    intro r S' er; subst er
    refine ?_
    · intro y0 y1 y2 y3 y4 hq H1 locs1 ls1 M hl
      subst hq
      exact wX10_sheet_65 ad A C0 M hr hst hl hre (fun k0 k1 k2 k3 k4 hk => (hin9 _ hk _ _ rfl) _ _ _ _ _ rfl)
set_option maxHeartbeats 4000000 in
set_option maxRecDepth 100000 in
theorem wX10_steep_0 {p : Program} {l : Launch} {e : Env} {s : State} {m : MethodId} {args : Array Value} {below : List Frame} {meth : Method} {c : Code} {D : va_G} {cy : Nat → ClassId} (ad : Nat → Nat) (A : Nat → Prop) {S : MS} {S' : MS} {H : Heap} {locs : List Loc} {n0 : Nat} {r : Int32} {ls : Array Slot} {x0 : Nat} {x1 : Int32} (C0 : CX p s m args meth c RX10 cX10_steep 3 D cy) (M : ST D cy ad A s.heap (ZN n0 s.heap.size) S H locs) (hr : meth.sig.returnType = some .int) (hF : bX10_steep_0 S x0 x1 = some (r, S')) (hl : lv_has ls 3 [(0, .ref (ad x0)), (1, .int x1)]) : W p l e rmX10_steep s m args below meth c H locs 0 0 (MQ below (QcM D cy ad A n0 S' (some (.int r))) args s 0 0 A) (F0 m 0 ls []) := by
  unfold bX10_steep_0 at hF
  obtain ⟨hx, hb, -, hown, -, hts, -⟩ := id C0
  refine lv_iload_n hx hb dX10_steep_0 rfl (lv_at hl 1 rfl) ?_
  refine lv_i2l (v := (x1.toInt64)) hx hb dX10_steep_1 rfl ?_
  refine lv_lconst (v := (1 : Int64)) hx hb dX10_steep_2 (by decide) ?_
  refine lv_ldc2 (v := (500 : Int64)) hx hb hown (hts _ (uw_of 1417 (by decide +kernel) rfl)) dX10_steep_3 ?_
  obtain ⟨v6, hcl, hF⟩ := ob hF
  refine go_SI (r_S (rest := []) (As := [.long (x1.toInt64), .long (1 : Int64), .long (500 : Int64)]) C0 cb_X10_156 (tX10_in l D cy ad hcl) (pre_S C0) hl dX10_steep_6 rfl (Nat.le_of_ble_eq_true rfl) ⟨rfl, rfl⟩ ⟨Nat.le_of_ble_eq_true rfl, Nat.le_of_ble_eq_true rfl⟩ ⟨Nat.le_of_ble_eq_true rfl, Nat.le_of_ble_eq_true rfl⟩ rfl) ?_
  refine lv_if_ne (tgt := 15) hx hb dX10_steep_9 (by decide) (fun hc => ?_) (fun hc => ?_)
  · have hF := oi_f hc hF
    refine lv_aload_n hx hb dX10_steep_15 rfl (lv_at hl 0 rfl) ?_
    obtain ⟨v16, hv, hF⟩ := ob hF
    refine k_getI C0 M.1 hv fl_X10_141 dX10_steep_16 ?_
    refine lv_istore_n (lv' := [(2, .int v16), (0, .ref (ad x0)), (1, .int x1)]) hx hb dX10_steep_19 rfl hl (by decide) rfl (fun ls hl => ?_)
    refine lv_aload_n hx hb dX10_steep_20 rfl (lv_at hl 1 rfl) ?_
    refine lv_iload_n hx hb dX10_steep_21 rfl (lv_at hl 2 rfl) ?_
    obtain ⟨S22, hv, hF⟩ := ob hF
    refine k_sI C0 M hv fl_X10_141 dX10_steep_22 (fun H locs M => ?_)
    refine lv_aload_n hx hb dX10_steep_25 rfl (lv_at hl 1 rfl) ?_
    refine lv_iconst (v := (0 : Int32)) hx hb dX10_steep_26 (by decide) ?_
    have hz : o_zb (0 : Int32) = some (0 : Int32) := rfl
    obtain ⟨S27, hv, hF⟩ := ob hF
    refine k_sZ C0 M hz hv fl_X10_174 dX10_steep_27 (fun H locs M => ?_)
    refine lv_iload_n hx hb dX10_steep_30 rfl (lv_at hl 0 rfl) ?_
    obtain ⟨rfl, rfl⟩ := Prod.mk.inj (Option.some.inj hF)
    exact rt_MI C0 M hr dX10_steep_31
  · have hF := oi_t hc hF
    refine lv_bipush (v := (-2 : Int32)) hx hb dX10_steep_12 (by decide) ?_
    obtain ⟨rfl, rfl⟩ := Prod.mk.inj (Option.some.inj hF)
    exact rt_MI C0 M hr dX10_steep_14
set_option maxHeartbeats 4000000 in
set_option maxRecDepth 100000 in
theorem tX10_steep (l : Launch) (D : va_G) (cy : Nat → ClassId) (ad : Nat → Nat) (A : Nat → Prop) {S S' : MS} {a0 : Nat} {a1 : Int32} {r : Int32} (h : fX10_steep S a0 a1 = some (r, S')) : Met l yX10_steep [Cond.code yX10_steep cX10_steep 3 (some .int)] rmX10_steep (PcR D cy ad A S [.ref (ad a0), .int a1]) (QcM D cy ad A (m_n S) S' (some (.int r))) 0 0 A := by
  refine met_M (by decide +kernel) cw_X10_steep (Nat.le_of_ble_eq_true rfl) ?_
  intro p e s m args below meth c ls C0 M hr hin hl
  have hl : lv_has ls 3 [(0, .ref (ad a0)), (1, .int a1)] := hl
  exact wX10_steep_0 ad A C0 M hr h hl
set_option maxHeartbeats 4000000 in
set_option maxRecDepth 100000 in
theorem wX10_tell_87 {p : Program} {l : Launch} {e : Env} {s : State} {m : MethodId} {args : Array Value} {below : List Frame} {meth : Method} {c : Code} {D : va_G} {cy : Nat → ClassId} (ad : Nat → Nat) (A : Nat → Prop) {S : MS} {S' : MS} {H : Heap} {locs : List Loc} {n0 : Nat} {r : Int32} {ls : Array Slot} {z0 : Int32} {z1 : Int32} (C0 : CX p s m args meth c RX10 cX10_tell 3 D cy) (M : ST D cy ad A s.heap (ZN n0 s.heap.size) S H locs) (hr : meth.sig.returnType = some .int) (hF : bX10_tell_87 S z0 z1 = some (r, S')) (hl : lv_has ls 3 []) : W p l e rmX10_tell s m args below meth c H locs 0 0 (MQ below (QcM D cy ad A n0 S' (some (.int r))) args s 0 0 A) (F0 m 87 ls [.int z1, .int z0]) := by
  unfold bX10_tell_87 at hF
  obtain ⟨hx, hb, -, hown, -, hts, -⟩ := id C0
  refine lv_iadd hx hb dX10_tell_87 ?_
  obtain ⟨rfl, rfl⟩ := Prod.mk.inj (Option.some.inj hF)
  exact rt_MI C0 M hr dX10_tell_88
set_option maxHeartbeats 4000000 in
set_option maxRecDepth 100000 in
theorem wX10_tell_71 {p : Program} {l : Launch} {e : Env} {s : State} {m : MethodId} {args : Array Value} {below : List Frame} {meth : Method} {c : Code} {D : va_G} {cy : Nat → ClassId} (ad : Nat → Nat) (A : Nat → Prop) {S : MS} {S' : MS} {H : Heap} {locs : List Loc} {n0 : Nat} {r : Int32} {ls : Array Slot} {x0 : Nat} {x1 : Int32} {x2 : Int32} {z0 : Int32} {z1 : Int32} (C0 : CX p s m args meth c RX10 cX10_tell 3 D cy) (M : ST D cy ad A s.heap (ZN n0 s.heap.size) S H locs) (hr : meth.sig.returnType = some .int) (hF : bX10_tell_71 S x0 x1 x2 z0 z1 = some (r, S')) (hl : lv_has ls 3 [(0, .ref (ad x0)), (1, .int x1), (2, .int x2)]) : W p l e rmX10_tell s m args below meth c H locs 0 0 (MQ below (QcM D cy ad A n0 S' (some (.int r))) args s 0 0 A) (F0 m 71 ls [.int z1, .int z0]) := by
  unfold bX10_tell_71 at hF
  obtain ⟨hx, hb, -, hown, -, hts, -⟩ := id C0
  refine lv_iadd hx hb dX10_tell_71 ?_
  refine lv_iload_n hx hb dX10_tell_72 rfl (lv_at hl 2 rfl) ?_
  refine lv_iconst (v := (2 : Int32)) hx hb dX10_tell_73 (by decide) ?_
  refine lv_icmp_ne (tgt := 86) hx hb dX10_tell_74 (by decide) (fun hc => ?_) (fun hc => ?_)
  · have hF := oi_f hc hF
    refine lv_iconst (v := (0 : Int32)) hx hb dX10_tell_86 (by decide) ?_
    exact wX10_tell_87 ad A C0 M hr hF (lv_sub hl [] rfl)
  · have hF := oi_t hc hF
    refine lv_aload_n hx hb dX10_tell_77 rfl (lv_at hl 0 rfl) ?_
    obtain ⟨v78, hv, hF⟩ := ob hF
    refine k_getP C0 M.1 hv fl_X10_19 dX10_tell_78 ?_
    refine lv_iload_n hx hb dX10_tell_81 rfl (lv_at hl 1 rfl) ?_
    obtain ⟨v82, hv, hF⟩ := ob hF
    refine k_ld C0 M.1 hv dX10_tell_82 ?_
    refine lv_goto (tgt := 87) hx hb dX10_tell_83 (by decide) ?_
    exact wX10_tell_87 ad A C0 M hr hF (lv_sub hl [] rfl)
set_option maxHeartbeats 4000000 in
set_option maxRecDepth 100000 in
theorem wX10_tell_51 {p : Program} {l : Launch} {e : Env} {s : State} {m : MethodId} {args : Array Value} {below : List Frame} {meth : Method} {c : Code} {D : va_G} {cy : Nat → ClassId} (ad : Nat → Nat) (A : Nat → Prop) {S : MS} {S' : MS} {H : Heap} {locs : List Loc} {n0 : Nat} {r : Int32} {ls : Array Slot} {x0 : Nat} {x1 : Int32} {x2 : Int32} (C0 : CX p s m args meth c RX10 cX10_tell 3 D cy) (M : ST D cy ad A s.heap (ZN n0 s.heap.size) S H locs) (hr : meth.sig.returnType = some .int) (hF : bX10_tell_51 S x0 x1 x2 = some (r, S')) (hl : lv_has ls 3 [(0, .ref (ad x0)), (1, .int x1), (2, .int x2)]) : W p l e rmX10_tell s m args below meth c H locs 0 0 (MQ below (QcM D cy ad A n0 S' (some (.int r))) args s 0 0 A) (F0 m 51 ls []) := by
  unfold bX10_tell_51 at hF
  obtain ⟨hx, hb, -, hown, -, hts, -⟩ := id C0
  refine lv_aload_n hx hb dX10_tell_51 rfl (lv_at hl 0 rfl) ?_
  obtain ⟨v52, hv, hF⟩ := ob hF
  refine k_getP C0 M.1 hv fl_X10_19 dX10_tell_52 ?_
  refine lv_iload_n hx hb dX10_tell_55 rfl (lv_at hl 1 rfl) ?_
  obtain ⟨v56, hv, hF⟩ := ob hF
  refine k_ld C0 M.1 hv dX10_tell_56 ?_
  refine lv_iload_n hx hb dX10_tell_57 rfl (lv_at hl 2 rfl) ?_
  refine lv_if_le (tgt := 70) hx hb dX10_tell_58 (by decide) (fun hc => ?_) (fun hc => ?_)
  · have hF := oi_t hc hF
    refine lv_iconst (v := (0 : Int32)) hx hb dX10_tell_70 (by decide) ?_
    exact wX10_tell_71 ad A C0 M hr hF (lv_sub hl [0, 1, 2] rfl)
  · have hF := oi_f hc hF
    refine lv_aload_n hx hb dX10_tell_61 rfl (lv_at hl 0 rfl) ?_
    obtain ⟨v62, hv, hF⟩ := ob hF
    refine k_getP C0 M.1 hv fl_X10_22 dX10_tell_62 ?_
    refine lv_iload_n hx hb dX10_tell_65 rfl (lv_at hl 1 rfl) ?_
    obtain ⟨v66, hv, hF⟩ := ob hF
    refine k_ld C0 M.1 hv dX10_tell_66 ?_
    refine lv_goto (tgt := 71) hx hb dX10_tell_67 (by decide) ?_
    exact wX10_tell_71 ad A C0 M hr hF (lv_sub hl [0, 1, 2] rfl)
set_option maxHeartbeats 4000000 in
set_option maxRecDepth 100000 in
theorem wX10_tell_36 {p : Program} {l : Launch} {e : Env} {s : State} {m : MethodId} {args : Array Value} {below : List Frame} {meth : Method} {c : Code} {D : va_G} {cy : Nat → ClassId} (ad : Nat → Nat) (A : Nat → Prop) {S : MS} {S' : MS} {H : Heap} {locs : List Loc} {n0 : Nat} {r : Int32} {ls : Array Slot} {x0 : Nat} {x1 : Int32} {x2 : Int32} (C0 : CX p s m args meth c RX10 cX10_tell 3 D cy) (M : ST D cy ad A s.heap (ZN n0 s.heap.size) S H locs) (hr : meth.sig.returnType = some .int) (hF : bX10_tell_36 S x0 x1 x2 = some (r, S')) (hl : lv_has ls 3 [(0, .ref (ad x0)), (1, .int x1), (2, .int x2)]) : W p l e rmX10_tell s m args below meth c H locs 0 0 (MQ below (QcM D cy ad A n0 S' (some (.int r))) args s 0 0 A) (F0 m 36 ls []) := by
  unfold bX10_tell_36 at hF
  obtain ⟨hx, hb, -, hown, -, hts, -⟩ := id C0
  refine lv_aload_n hx hb dX10_tell_36 rfl (lv_at hl 0 rfl) ?_
  refine lv_iconst (v := (1 : Int32)) hx hb dX10_tell_37 (by decide) ?_
  obtain ⟨_, hrec, hF⟩ := ob hF
  obtain ⟨S38, hcl, hF⟩ := ob hF
  refine go_MV (r_V (rest := []) (As := [.int (1 : Int32)]) C0 cb_X10_421 M.1 hrec (tX10_traced l D cy ad A hcl) (pre_R C0 M.1) hl dX10_tell_38 rfl (Nat.le_of_ble_eq_true rfl) ⟨rfl, rfl⟩ ⟨Nat.le_of_ble_eq_true rfl, Nat.le_of_ble_eq_true rfl⟩ ⟨Nat.le_of_ble_eq_true rfl, Nat.le_of_ble_eq_true rfl⟩ rfl) M (fun H locs M => ?_)
  refine lv_iload_n hx hb dX10_tell_41 rfl (lv_at hl 2 rfl) ?_
  refine lv_iconst (v := (2 : Int32)) hx hb dX10_tell_42 (by decide) ?_
  refine lv_icmp_ne (tgt := 51) hx hb dX10_tell_43 (by decide) (fun hc => ?_) (fun hc => ?_)
  · have hF := oi_f hc hF
    exact wX10_tell_51 ad A C0 M hr hF (lv_sub hl [0, 1, 2] rfl)
  · have hF := oi_t hc hF
    refine lv_aload_n hx hb dX10_tell_46 rfl (lv_at hl 0 rfl) ?_
    refine lv_iconst (v := (1 : Int32)) hx hb dX10_tell_47 (by decide) ?_
    obtain ⟨_, hrec, hF⟩ := ob hF
    obtain ⟨S48, hcl, hF⟩ := ob hF
    refine go_MV (r_V (rest := []) (As := [.int (1 : Int32)]) C0 cb_X10_421 M.1 hrec (tX10_traced l D cy ad A hcl) (pre_R C0 M.1) hl dX10_tell_48 rfl (Nat.le_of_ble_eq_true rfl) ⟨rfl, rfl⟩ ⟨Nat.le_of_ble_eq_true rfl, Nat.le_of_ble_eq_true rfl⟩ ⟨Nat.le_of_ble_eq_true rfl, Nat.le_of_ble_eq_true rfl⟩ rfl) M (fun H locs M => ?_)
    exact wX10_tell_51 ad A C0 M hr hF (lv_sub hl [0, 1, 2] rfl)
set_option maxHeartbeats 4000000 in
set_option maxRecDepth 100000 in
theorem wX10_tell_27 {p : Program} {l : Launch} {e : Env} {s : State} {m : MethodId} {args : Array Value} {below : List Frame} {meth : Method} {c : Code} {D : va_G} {cy : Nat → ClassId} (ad : Nat → Nat) (A : Nat → Prop) {S : MS} {S' : MS} {H : Heap} {locs : List Loc} {n0 : Nat} {r : Int32} {ls : Array Slot} {x0 : Nat} {x1 : Int32} {x2 : Int32} (C0 : CX p s m args meth c RX10 cX10_tell 3 D cy) (M : ST D cy ad A s.heap (ZN n0 s.heap.size) S H locs) (hr : meth.sig.returnType = some .int) (hF : bX10_tell_27 S x0 x1 x2 = some (r, S')) (hl : lv_has ls 3 [(0, .ref (ad x0)), (1, .int x1), (2, .int x2)]) : W p l e rmX10_tell s m args below meth c H locs 0 0 (MQ below (QcM D cy ad A n0 S' (some (.int r))) args s 0 0 A) (F0 m 27 ls []) := by
  unfold bX10_tell_27 at hF
  obtain ⟨hx, hb, -, hown, -, hts, -⟩ := id C0
  refine lv_iload_n hx hb dX10_tell_27 rfl (lv_at hl 2 rfl) ?_
  refine lv_if_le (tgt := 36) hx hb dX10_tell_28 (by decide) (fun hc => ?_) (fun hc => ?_)
  · have hF := oi_t hc hF
    exact wX10_tell_36 ad A C0 M hr hF (lv_sub hl [0, 1, 2] rfl)
  · have hF := oi_f hc hF
    refine lv_aload_n hx hb dX10_tell_31 rfl (lv_at hl 0 rfl) ?_
    refine lv_iconst (v := (2 : Int32)) hx hb dX10_tell_32 (by decide) ?_
    obtain ⟨_, hrec, hF⟩ := ob hF
    obtain ⟨S33, hcl, hF⟩ := ob hF
    refine go_MV (r_V (rest := []) (As := [.int (2 : Int32)]) C0 cb_X10_421 M.1 hrec (tX10_traced l D cy ad A hcl) (pre_R C0 M.1) hl dX10_tell_33 rfl (Nat.le_of_ble_eq_true rfl) ⟨rfl, rfl⟩ ⟨Nat.le_of_ble_eq_true rfl, Nat.le_of_ble_eq_true rfl⟩ ⟨Nat.le_of_ble_eq_true rfl, Nat.le_of_ble_eq_true rfl⟩ rfl) M (fun H locs M => ?_)
    exact wX10_tell_36 ad A C0 M hr hF (lv_sub hl [0, 1, 2] rfl)
set_option maxHeartbeats 4000000 in
set_option maxRecDepth 100000 in
theorem wX10_tell_0 {p : Program} {l : Launch} {e : Env} {s : State} {m : MethodId} {args : Array Value} {below : List Frame} {meth : Method} {c : Code} {D : va_G} {cy : Nat → ClassId} (ad : Nat → Nat) (A : Nat → Prop) {S : MS} {S' : MS} {H : Heap} {locs : List Loc} {n0 : Nat} {r : Int32} {ls : Array Slot} {x0 : Nat} {x1 : Int32} (C0 : CX p s m args meth c RX10 cX10_tell 3 D cy) (M : ST D cy ad A s.heap (ZN n0 s.heap.size) S H locs) (hr : meth.sig.returnType = some .int) (hF : bX10_tell_0 S x0 x1 = some (r, S')) (hl : lv_has ls 3 [(0, .ref (ad x0)), (1, .int x1)]) : W p l e rmX10_tell s m args below meth c H locs 0 0 (MQ below (QcM D cy ad A n0 S' (some (.int r))) args s 0 0 A) (F0 m 0 ls []) := by
  unfold bX10_tell_0 at hF
  obtain ⟨hx, hb, -, hown, -, hts, -⟩ := id C0
  refine lv_aload_n hx hb dX10_tell_0 rfl (lv_at hl 0 rfl) ?_
  refine lv_iload_n hx hb dX10_tell_1 rfl (lv_at hl 1 rfl) ?_
  obtain ⟨_, hrec, hF⟩ := ob hF
  obtain ⟨v2, hcl, hF⟩ := ob hF
  refine go_SI (r_V (rest := []) (As := [.int x1]) C0 cb_X10_186 M.1 hrec (tX10_noPost l D cy ad A hcl) (pre_R C0 M.1) hl dX10_tell_2 rfl (Nat.le_of_ble_eq_true rfl) ⟨rfl, rfl⟩ ⟨Nat.le_of_ble_eq_true rfl, Nat.le_of_ble_eq_true rfl⟩ ⟨Nat.le_of_ble_eq_true rfl, Nat.le_of_ble_eq_true rfl⟩ rfl) ?_
  refine lv_if_eq (tgt := 10) hx hb dX10_tell_5 (by decide) (fun hc => ?_) (fun hc => ?_)
  · have hF := oi_t hc hF
    refine lv_aload_n hx hb dX10_tell_10 rfl (lv_at hl 0 rfl) ?_
    obtain ⟨v11, hv, hF⟩ := ob hF
    refine k_getP C0 M.1 hv fl_X10_7 dX10_tell_11 ?_
    refine lv_iload_n hx hb dX10_tell_14 rfl (lv_at hl 1 rfl) ?_
    obtain ⟨v15, hv, hF⟩ := ob hF
    refine k_ld C0 M.1 hv dX10_tell_15 ?_
    refine lv_istore_n (lv' := [(2, .int v15), (0, .ref (ad x0)), (1, .int x1)]) hx hb dX10_tell_16 rfl hl (by decide) rfl (fun ls hl => ?_)
    refine lv_iload_n hx hb dX10_tell_17 rfl (lv_at hl 0 rfl) ?_
    refine lv_iconst (v := (2 : Int32)) hx hb dX10_tell_18 (by decide) ?_
    refine lv_icmp_ne (tgt := 27) hx hb dX10_tell_19 (by decide) (fun hc => ?_) (fun hc => ?_)
    · have hF := oi_f hc hF
      exact wX10_tell_27 ad A C0 M hr hF (lv_sub hl [1, 2, 0] rfl)
    · have hF := oi_t hc hF
      refine lv_aload_n hx hb dX10_tell_22 rfl (lv_at hl 1 rfl) ?_
      refine lv_iconst (v := (3 : Int32)) hx hb dX10_tell_23 (by decide) ?_
      obtain ⟨_, hrec, hF⟩ := ob hF
      obtain ⟨S24, hcl, hF⟩ := ob hF
      refine go_MV (r_V (rest := []) (As := [.int (3 : Int32)]) C0 cb_X10_421 M.1 hrec (tX10_traced l D cy ad A hcl) (pre_R C0 M.1) hl dX10_tell_24 rfl (Nat.le_of_ble_eq_true rfl) ⟨rfl, rfl⟩ ⟨Nat.le_of_ble_eq_true rfl, Nat.le_of_ble_eq_true rfl⟩ ⟨Nat.le_of_ble_eq_true rfl, Nat.le_of_ble_eq_true rfl⟩ rfl) M (fun H locs M => ?_)
      exact wX10_tell_27 ad A C0 M hr hF (lv_sub hl [1, 2, 0] rfl)
  · have hF := oi_f hc hF
    refine lv_iconst (v := (-1 : Int32)) hx hb dX10_tell_8 (by decide) ?_
    obtain ⟨rfl, rfl⟩ := Prod.mk.inj (Option.some.inj hF)
    exact rt_MI C0 M hr dX10_tell_9
set_option maxHeartbeats 4000000 in
set_option maxRecDepth 100000 in
theorem tX10_tell (l : Launch) (D : va_G) (cy : Nat → ClassId) (ad : Nat → Nat) (A : Nat → Prop) {S S' : MS} {a0 : Nat} {a1 : Int32} {r : Int32} (h : fX10_tell S a0 a1 = some (r, S')) : Met l yX10_tell [Cond.code yX10_tell cX10_tell 3 (some .int)] rmX10_tell (PcR D cy ad A S [.ref (ad a0), .int a1]) (QcM D cy ad A (m_n S) S' (some (.int r))) 0 0 A := by
  refine met_M (by decide +kernel) cw_X10_tell (Nat.le_of_ble_eq_true rfl) ?_
  intro p e s m args below meth c ls C0 M hr hin hl
  have hl : lv_has ls 3 [(0, .ref (ad a0)), (1, .int a1)] := hl
  exact wX10_tell_0 ad A C0 M hr h hl
set_option maxHeartbeats 4000000 in
set_option maxRecDepth 100000 in
theorem wX10_told_85 {p : Program} {l : Launch} {e : Env} {s : State} {m : MethodId} {args : Array Value} {below : List Frame} {meth : Method} {c : Code} {D : va_G} {cy : Nat → ClassId} (ad : Nat → Nat) (A : Nat → Prop) {S : MS} {S' : MS} {H : Heap} {locs : List Loc} {n0 : Nat} {r : Int32} {ls : Array Slot} {z0 : Int32} (C0 : CX p s m args meth c RX10 cX10_told 3 D cy) (M : ST D cy ad A s.heap (ZN n0 s.heap.size) S H locs) (hr : meth.sig.returnType = some .int) (hF : bX10_told_85 S z0 = some (r, S')) (hl : lv_has ls 3 []) : W p l e rmX10_told s m args below meth c H locs 0 0 (MQ below (QcM D cy ad A n0 S' (some (.int r))) args s 0 0 A) (F0 m 85 ls [.int z0]) := by
  unfold bX10_told_85 at hF
  obtain ⟨hx, hb, -, hown, -, hts, -⟩ := id C0
  obtain ⟨rfl, rfl⟩ := Prod.mk.inj (Option.some.inj hF)
  exact rt_MI C0 M hr dX10_told_85
set_option maxHeartbeats 4000000 in
set_option maxRecDepth 100000 in
theorem wX10_told_0 {p : Program} {l : Launch} {e : Env} {s : State} {m : MethodId} {args : Array Value} {below : List Frame} {meth : Method} {c : Code} {D : va_G} {cy : Nat → ClassId} (ad : Nat → Nat) (A : Nat → Prop) {S : MS} {S' : MS} {H : Heap} {locs : List Loc} {n0 : Nat} {r : Int32} {ls : Array Slot} {x0 : Nat} {x1 : Int32} {x2 : Int32} (C0 : CX p s m args meth c RX10 cX10_told 3 D cy) (M : ST D cy ad A s.heap (ZN n0 s.heap.size) S H locs) (hr : meth.sig.returnType = some .int) (hF : bX10_told_0 S x0 x1 x2 = some (r, S')) (hl : lv_has ls 3 [(0, .ref (ad x0)), (1, .int x1), (2, .int x2)]) : W p l e rmX10_told s m args below meth c H locs 0 0 (MQ below (QcM D cy ad A n0 S' (some (.int r))) args s 0 0 A) (F0 m 0 ls []) := by
  unfold bX10_told_0 at hF
  obtain ⟨hx, hb, -, hown, -, hts, -⟩ := id C0
  refine lv_aload_n hx hb dX10_told_0 rfl (lv_at hl 0 rfl) ?_
  refine lv_iload_n hx hb dX10_told_1 rfl (lv_at hl 1 rfl) ?_
  obtain ⟨_, hrec, hF⟩ := ob hF
  obtain ⟨v2, hcl, hF⟩ := ob hF
  refine go_SI (r_V (rest := []) (As := [.int x1]) C0 cb_X10_234 M.1 hrec (tX10_noWire l D cy ad A hcl) (pre_R C0 M.1) hl dX10_told_2 rfl (Nat.le_of_ble_eq_true rfl) ⟨rfl, rfl⟩ ⟨Nat.le_of_ble_eq_true rfl, Nat.le_of_ble_eq_true rfl⟩ ⟨Nat.le_of_ble_eq_true rfl, Nat.le_of_ble_eq_true rfl⟩ rfl) ?_
  refine lv_if_eq (tgt := 10) hx hb dX10_told_5 (by decide) (fun hc => ?_) (fun hc => ?_)
  · have hF := oi_t hc hF
    refine lv_aload_n hx hb dX10_told_10 rfl (lv_at hl 0 rfl) ?_
    obtain ⟨_, hrec, hF⟩ := ob hF
    obtain ⟨S11, hcl, hF⟩ := ob hF
    refine go_MV (r_V (rest := []) (As := []) C0 cb_X10_237 M.1 hrec (tX10_layChart l D cy ad A hcl) (pre_R C0 M.1) hl dX10_told_11 rfl (Nat.le_of_ble_eq_true rfl) ⟨rfl, rfl⟩ ⟨Nat.le_of_ble_eq_true rfl, Nat.le_of_ble_eq_true rfl⟩ ⟨Nat.le_of_ble_eq_true rfl, Nat.le_of_ble_eq_true rfl⟩ rfl) M (fun H locs M => ?_)
    refine lv_iload_n hx hb dX10_told_14 rfl (lv_at hl 2 rfl) ?_
    by_cases hc0 : x2 = (0 : Int32)
    · have hF := oi_t hc0 hF
      refine lv_tableIn (tgt := 44) (off := 29) hx hb dX10_told_15 (by rw [hc0]; decide) (by rw [hc0]; decide) (by rw [hc0]; rfl) (by decide) ?_
      refine lv_aload_n hx hb dX10_told_44 rfl (lv_at hl 0 rfl) ?_
      obtain ⟨v45, hv, hF⟩ := ob hF
      refine k_getP C0 M.1 hv fl_X10_28 dX10_told_45 ?_
      refine lv_iload_n hx hb dX10_told_48 rfl (lv_at hl 1 rfl) ?_
      obtain ⟨v49, hv, hF⟩ := ob hF
      refine k_ld C0 M.1 hv dX10_told_49 ?_
      obtain ⟨rfl, rfl⟩ := Prod.mk.inj (Option.some.inj hF)
      exact rt_MI C0 M hr dX10_told_50
    have hF := oi_f hc0 hF
    by_cases hc1 : x2 = (1 : Int32)
    · have hF := oi_t hc1 hF
      refine lv_tableIn (tgt := 51) (off := 36) hx hb dX10_told_15 (by rw [hc1]; decide) (by rw [hc1]; decide) (by rw [hc1]; rfl) (by decide) ?_
      refine lv_aload_n hx hb dX10_told_51 rfl (lv_at hl 0 rfl) ?_
      obtain ⟨v52, hv, hF⟩ := ob hF
      refine k_getP C0 M.1 hv fl_X10_31 dX10_told_52 ?_
      refine lv_iload_n hx hb dX10_told_55 rfl (lv_at hl 1 rfl) ?_
      obtain ⟨v56, hv, hF⟩ := ob hF
      refine k_ld C0 M.1 hv dX10_told_56 ?_
      obtain ⟨rfl, rfl⟩ := Prod.mk.inj (Option.some.inj hF)
      exact rt_MI C0 M hr dX10_told_57
    have hF := oi_f hc1 hF
    by_cases hc2 : x2 = (2 : Int32)
    · have hF := oi_t hc2 hF
      refine lv_tableIn (tgt := 58) (off := 43) hx hb dX10_told_15 (by rw [hc2]; decide) (by rw [hc2]; decide) (by rw [hc2]; rfl) (by decide) ?_
      refine lv_aload_n hx hb dX10_told_58 rfl (lv_at hl 0 rfl) ?_
      obtain ⟨v59, hv, hF⟩ := ob hF
      refine k_getP C0 M.1 hv fl_X10_34 dX10_told_59 ?_
      refine lv_iload_n hx hb dX10_told_62 rfl (lv_at hl 1 rfl) ?_
      obtain ⟨v63, hv, hF⟩ := ob hF
      refine k_ld C0 M.1 hv dX10_told_63 ?_
      obtain ⟨rfl, rfl⟩ := Prod.mk.inj (Option.some.inj hF)
      exact rt_MI C0 M hr dX10_told_64
    have hF := oi_f hc2 hF
    by_cases hc3 : x2 = (3 : Int32)
    · have hF := oi_t hc3 hF
      refine lv_tableIn (tgt := 65) (off := 50) hx hb dX10_told_15 (by rw [hc3]; decide) (by rw [hc3]; decide) (by rw [hc3]; rfl) (by decide) ?_
      refine lv_aload_n hx hb dX10_told_65 rfl (lv_at hl 0 rfl) ?_
      obtain ⟨v66, hv, hF⟩ := ob hF
      refine k_getP C0 M.1 hv fl_X10_46 dX10_told_66 ?_
      refine lv_aload_n hx hb dX10_told_69 rfl (lv_at hl 0 rfl) ?_
      obtain ⟨v70, hv, hF⟩ := ob hF
      refine k_getP C0 M.1 hv fl_X10_28 dX10_told_70 ?_
      refine lv_iload_n hx hb dX10_told_73 rfl (lv_at hl 1 rfl) ?_
      obtain ⟨v74, hv, hF⟩ := ob hF
      refine k_ld C0 M.1 hv dX10_told_74 ?_
      obtain ⟨v75, hv, hF⟩ := ob hF
      refine k_ld C0 M.1 hv dX10_told_75 ?_
      refine lv_iload_n hx hb dX10_told_76 rfl (lv_at hl 1 rfl) ?_
      refine lv_icmp_ne (tgt := 84) hx hb dX10_told_77 (by decide) (fun hc => ?_) (fun hc => ?_)
      · have hF := oi_f hc hF
        refine lv_iconst (v := (0 : Int32)) hx hb dX10_told_84 (by decide) ?_
        exact wX10_told_85 ad A C0 M hr hF (lv_sub hl [] rfl)
      · have hF := oi_t hc hF
        refine lv_iconst (v := (1 : Int32)) hx hb dX10_told_80 (by decide) ?_
        refine lv_goto (tgt := 85) hx hb dX10_told_81 (by decide) ?_
        exact wX10_told_85 ad A C0 M hr hF (lv_sub hl [] rfl)
    have hF := oi_f hc3 hF
    refine lv_tableOut (tgt := 86) hx hb dX10_told_15 (tsw (x := x2) (n := 4) (by decide) (fun k hk => by rcases (show k = 0 ∨ k = 1 ∨ k = 2 ∨ k = 3 by omega) with rfl | rfl | rfl | rfl <;> first | exact hc0 | exact hc1 | exact hc2 | exact hc3)) (by decide) ?_
    refine lv_bipush (v := (-2 : Int32)) hx hb dX10_told_86 (by decide) ?_
    obtain ⟨rfl, rfl⟩ := Prod.mk.inj (Option.some.inj hF)
    exact rt_MI C0 M hr dX10_told_88
  · have hF := oi_f hc hF
    refine lv_iconst (v := (-1 : Int32)) hx hb dX10_told_8 (by decide) ?_
    obtain ⟨rfl, rfl⟩ := Prod.mk.inj (Option.some.inj hF)
    exact rt_MI C0 M hr dX10_told_9
set_option maxHeartbeats 4000000 in
set_option maxRecDepth 100000 in
theorem tX10_told (l : Launch) (D : va_G) (cy : Nat → ClassId) (ad : Nat → Nat) (A : Nat → Prop) {S S' : MS} {a0 : Nat} {a1 : Int32} {a2 : Int32} {r : Int32} (h : fX10_told S a0 a1 a2 = some (r, S')) : Met l yX10_told [Cond.code yX10_told cX10_told 3 (some .int)] rmX10_told (PcR D cy ad A S [.ref (ad a0), .int a1, .int a2]) (QcM D cy ad A (m_n S) S' (some (.int r))) 0 0 A := by
  refine met_M (by decide +kernel) cw_X10_told (Nat.le_of_ble_eq_true rfl) ?_
  intro p e s m args below meth c ls C0 M hr hin hl
  have hl : lv_has ls 3 [(0, .ref (ad a0)), (1, .int a1), (2, .int a2)] := hl
  exact wX10_told_0 ad A C0 M hr h hl
set_option maxHeartbeats 4000000 in
set_option maxRecDepth 100000 in
theorem wX10_trace_0 {p : Program} {l : Launch} {e : Env} {s : State} {m : MethodId} {args : Array Value} {below : List Frame} {meth : Method} {c : Code} {D : va_G} {cy : Nat → ClassId} (ad : Nat → Nat) (A : Nat → Prop) {S : MS} {r : Int32} {ls : Array Slot} {x0 : Nat} (C0 : CX p s m args meth c RX10 cX10_trace 1 D cy) (M : MW D cy ad A S s.heap) (hr : meth.sig.returnType = some .int) (hF : bX10_trace_0 S x0 = some r) (hl : lv_has ls 1 [(0, .ref (ad x0))]) : W p l e rmX10_trace s m args below meth c s.heap [] 0 0 (MQ below (QcS (some (.int r))) args s 0 0 (fun _ => False)) (F0 m 0 ls []) := by
  unfold bX10_trace_0 at hF
  obtain ⟨hx, hb, -, hown, -, hts, -⟩ := id C0
  refine lv_aload_n hx hb dX10_trace_0 rfl (lv_at hl 0 rfl) ?_
  obtain ⟨v1, hv, hF⟩ := ob hF
  refine k_getI C0 M hv fl_X10_418 dX10_trace_1 ?_
  obtain rfl := (Option.some.inj hF)
  exact rt_SI C0 hr dX10_trace_4
set_option maxHeartbeats 4000000 in
set_option maxRecDepth 100000 in
theorem tX10_trace (l : Launch) (D : va_G) (cy : Nat → ClassId) (ad : Nat → Nat) (A : Nat → Prop) {S : MS} {a0 : Nat} {r : Int32} (h : fX10_trace S a0 = some r) : Met l yX10_trace [Cond.code yX10_trace cX10_trace 1 (some .int)] rmX10_trace (PcR D cy ad A S [.ref (ad a0)]) (QcS (some (.int r))) 0 0 (fun _ => False) := by
  refine met_R (by decide +kernel) cw_X10_trace (Nat.le_of_ble_eq_true rfl) ?_
  intro p e s m args below meth c ls C0 M hr hl
  have hl : lv_has ls 1 [(0, .ref (ad a0))] := hl
  exact wX10_trace_0 ad A C0 M hr h hl
set_option maxHeartbeats 4000000 in
set_option maxRecDepth 100000 in
theorem wX10_value_0 {p : Program} {l : Launch} {e : Env} {s : State} {m : MethodId} {args : Array Value} {below : List Frame} {meth : Method} {c : Code} {D : va_G} {cy : Nat → ClassId} (ad : Nat → Nat) (A : Nat → Prop) {S : MS} {S' : MS} {H : Heap} {locs : List Loc} {n0 : Nat} {r : Int32} {ls : Array Slot} {x0 : Nat} {x1 : Int32} {x2 : Int32} (C0 : CX p s m args meth c RX10 cX10_value 3 D cy) (M : ST D cy ad A s.heap (ZN n0 s.heap.size) S H locs) (hr : meth.sig.returnType = some .int) (hF : bX10_value_0 S x0 x1 x2 = some (r, S')) (hl : lv_has ls 3 [(0, .ref (ad x0)), (1, .int x1), (2, .int x2)]) : W p l e rmX10_value s m args below meth c H locs 0 0 (MQ below (QcM D cy ad A n0 S' (some (.int r))) args s 0 0 A) (F0 m 0 ls []) := by
  unfold bX10_value_0 at hF
  obtain ⟨hx, hb, -, hown, -, hts, -⟩ := id C0
  refine lv_iload_n hx hb dX10_value_0 rfl (lv_at hl 1 rfl) ?_
  refine lv_iload_n hx hb dX10_value_1 rfl (lv_at hl 2 rfl) ?_
  obtain ⟨v2, hcl, hF⟩ := ob hF
  refine go_SI (r_S (rest := []) (As := [.int x1, .int x2]) C0 cb_X10_164 (tX10_isPlace l D cy ad hcl) (pre_S C0) hl dX10_value_2 rfl (Nat.le_of_ble_eq_true rfl) ⟨rfl, rfl⟩ ⟨Nat.le_of_ble_eq_true rfl, Nat.le_of_ble_eq_true rfl⟩ ⟨Nat.le_of_ble_eq_true rfl, Nat.le_of_ble_eq_true rfl⟩ rfl) ?_
  refine lv_if_ne (tgt := 10) hx hb dX10_value_5 (by decide) (fun hc => ?_) (fun hc => ?_)
  · have hF := oi_f hc hF
    refine lv_aload_n hx hb dX10_value_10 rfl (lv_at hl 0 rfl) ?_
    obtain ⟨_, hrec, hF⟩ := ob hF
    obtain ⟨S11, hcl, hF⟩ := ob hF
    refine go_MV (r_V (rest := []) (As := []) C0 cb_X10_237 M.1 hrec (tX10_layChart l D cy ad A hcl) (pre_R C0 M.1) hl dX10_value_11 rfl (Nat.le_of_ble_eq_true rfl) ⟨rfl, rfl⟩ ⟨Nat.le_of_ble_eq_true rfl, Nat.le_of_ble_eq_true rfl⟩ ⟨Nat.le_of_ble_eq_true rfl, Nat.le_of_ble_eq_true rfl⟩ rfl) M (fun H locs M => ?_)
    refine lv_aload_n hx hb dX10_value_14 rfl (lv_at hl 0 rfl) ?_
    obtain ⟨v15, hv, hF⟩ := ob hF
    refine k_getP C0 M.1 hv fl_X10_55 dX10_value_15 ?_
    refine lv_bipush (v := (12 : Int32)) hx hb dX10_value_18 (by decide) ?_
    refine lv_iload_n hx hb dX10_value_20 rfl (lv_at hl 2 rfl) ?_
    refine lv_imul hx hb dX10_value_21 ?_
    refine lv_iload_n hx hb dX10_value_22 rfl (lv_at hl 1 rfl) ?_
    refine lv_iadd hx hb dX10_value_23 ?_
    obtain ⟨v24, hv, hF⟩ := ob hF
    refine k_ld C0 M.1 hv dX10_value_24 ?_
    obtain ⟨rfl, rfl⟩ := Prod.mk.inj (Option.some.inj hF)
    exact rt_MI C0 M hr dX10_value_25
  · have hF := oi_t hc hF
    refine lv_iconst (v := (-1 : Int32)) hx hb dX10_value_8 (by decide) ?_
    obtain ⟨rfl, rfl⟩ := Prod.mk.inj (Option.some.inj hF)
    exact rt_MI C0 M hr dX10_value_9
set_option maxHeartbeats 4000000 in
set_option maxRecDepth 100000 in
theorem tX10_value (l : Launch) (D : va_G) (cy : Nat → ClassId) (ad : Nat → Nat) (A : Nat → Prop) {S S' : MS} {a0 : Nat} {a1 : Int32} {a2 : Int32} {r : Int32} (h : fX10_value S a0 a1 a2 = some (r, S')) : Met l yX10_value [Cond.code yX10_value cX10_value 3 (some .int)] rmX10_value (PcR D cy ad A S [.ref (ad a0), .int a1, .int a2]) (QcM D cy ad A (m_n S) S' (some (.int r))) 0 0 A := by
  refine met_M (by decide +kernel) cw_X10_value (Nat.le_of_ble_eq_true rfl) ?_
  intro p e s m args below meth c ls C0 M hr hin hl
  have hl : lv_has ls 3 [(0, .ref (ad a0)), (1, .int a1), (2, .int a2)] := hl
  exact wX10_value_0 ad A C0 M hr h hl
set_option maxHeartbeats 4000000 in
set_option maxRecDepth 100000 in
theorem wX10_verified_0 {p : Program} {l : Launch} {e : Env} {s : State} {m : MethodId} {args : Array Value} {below : List Frame} {meth : Method} {c : Code} {D : va_G} {cy : Nat → ClassId} (ad : Nat → Nat) (A : Nat → Prop) {S : MS} {S' : MS} {H : Heap} {locs : List Loc} {n0 : Nat} {r : Int32} {out : ((Nat × Int32 × Int32 × Int32 × Int32 × MS) ⊕ (Int32 × MS))} {ls : Array Slot} {x0 : Nat} {x1 : Int32} {x2 : Int32} (C0 : CX p s m args meth c RX10 cX10_verified 5 D cy) (M : ST D cy ad A s.heap (ZN n0 s.heap.size) S H locs) (hr : meth.sig.returnType = some .int) (hF : bX10_verified_0 S x0 x1 x2 = some out) (hl : lv_has ls 5 [(0, .ref (ad x0)), (1, .int x1), (2, .int x2)]) (Kr : ∀ r9, out = .inr r9 → r9 = (r, S')) (Kh0 : ∀ (y0 : Nat) (y1 : Int32) (y2 : Int32) (y3 : Int32) (y4 : Int32) (S2 : MS), out = .inl (y0, y1, y2, y3, y4, S2) → ∀ (H1 : Heap) (locs1 : List Loc) (ls1 : Array Slot), ST D cy ad A s.heap (ZN n0 s.heap.size) S2 H1 locs1 → lv_has ls1 5 [(0, .ref (ad y0)), (1, .int y1), (2, .int y2), (3, .int y3), (4, .int y4)] → W p l e rmX10_verified s m args below meth c H1 locs1 0 0 (MQ below (QcM D cy ad A n0 S' (some (.int r))) args s 0 0 A) (F0 m 42 ls1 [])) : W p l e rmX10_verified s m args below meth c H locs 0 0 (MQ below (QcM D cy ad A n0 S' (some (.int r))) args s 0 0 A) (F0 m 0 ls []) := by
  unfold bX10_verified_0 at hF
  obtain ⟨hx, hb, -, hown, -, hts, -⟩ := id C0
  refine lv_iload_n hx hb dX10_verified_0 rfl (lv_at hl 1 rfl) ?_
  refine lv_i2l (v := (x1.toInt64)) hx hb dX10_verified_1 rfl ?_
  refine lv_lconst (v := (0 : Int64)) hx hb dX10_verified_2 (by decide) ?_
  refine lv_aload_n hx hb dX10_verified_3 rfl (lv_at hl 0 rfl) ?_
  obtain ⟨v4, hv, hF⟩ := ob hF
  refine k_getI C0 M.1 hv fl_X10_399 dX10_verified_4 ?_
  refine lv_i2l (v := (v4.toInt64)) hx hb dX10_verified_7 rfl ?_
  refine lv_lconst (v := (1 : Int64)) hx hb dX10_verified_8 (by decide) ?_
  refine lv_lsub hx hb dX10_verified_9 ?_
  obtain ⟨v10, hcl, hF⟩ := ob hF
  refine go_SI (r_S (rest := []) (As := [.long (x1.toInt64), .long (0 : Int64), .long ((v4.toInt64) - (1 : Int64))]) C0 cb_X10_156 (tX10_in l D cy ad hcl) (pre_S C0) hl dX10_verified_10 rfl (Nat.le_of_ble_eq_true rfl) ⟨rfl, rfl⟩ ⟨Nat.le_of_ble_eq_true rfl, Nat.le_of_ble_eq_true rfl⟩ ⟨Nat.le_of_ble_eq_true rfl, Nat.le_of_ble_eq_true rfl⟩ rfl) ?_
  refine lv_if_ne (tgt := 18) hx hb dX10_verified_13 (by decide) (fun hc => ?_) (fun hc => ?_)
  · have hF := oi_f hc hF
    refine lv_iload_n hx hb dX10_verified_18 rfl (lv_at hl 2 rfl) ?_
    refine lv_i2l (v := (x2.toInt64)) hx hb dX10_verified_19 rfl ?_
    refine lv_lconst (v := (0 : Int64)) hx hb dX10_verified_20 (by decide) ?_
    refine lv_ldc2 (v := (2 : Int64)) hx hb hown (hts _ (uw_of 1250 (by decide +kernel) rfl)) dX10_verified_21 ?_
    obtain ⟨v24, hcl, hF⟩ := ob hF
    refine go_SI (r_S (rest := []) (As := [.long (x2.toInt64), .long (0 : Int64), .long (2 : Int64)]) C0 cb_X10_156 (tX10_in l D cy ad hcl) (pre_S C0) hl dX10_verified_24 rfl (Nat.le_of_ble_eq_true rfl) ⟨rfl, rfl⟩ ⟨Nat.le_of_ble_eq_true rfl, Nat.le_of_ble_eq_true rfl⟩ ⟨Nat.le_of_ble_eq_true rfl, Nat.le_of_ble_eq_true rfl⟩ rfl) ?_
    refine lv_if_ne (tgt := 33) hx hb dX10_verified_27 (by decide) (fun hc => ?_) (fun hc => ?_)
    · have hF := oi_f hc hF
      refine lv_aload_n hx hb dX10_verified_33 rfl (lv_at hl 0 rfl) ?_
      obtain ⟨_, hrec, hF⟩ := ob hF
      obtain ⟨S34, hcl, hF⟩ := ob hF
      refine go_MV (r_V (rest := []) (As := []) C0 cb_X10_237 M.1 hrec (tX10_layChart l D cy ad A hcl) (pre_R C0 M.1) hl dX10_verified_34 rfl (Nat.le_of_ble_eq_true rfl) ⟨rfl, rfl⟩ ⟨Nat.le_of_ble_eq_true rfl, Nat.le_of_ble_eq_true rfl⟩ ⟨Nat.le_of_ble_eq_true rfl, Nat.le_of_ble_eq_true rfl⟩ rfl) M (fun H locs M => ?_)
      refine lv_iconst (v := (0 : Int32)) hx hb dX10_verified_37 (by decide) ?_
      refine lv_istore_n (lv' := [(3, .int (0 : Int32)), (0, .ref (ad x0)), (1, .int x1), (2, .int x2)]) hx hb dX10_verified_38 rfl hl (by decide) rfl (fun ls hl => ?_)
      refine lv_iconst (v := (0 : Int32)) hx hb dX10_verified_39 (by decide) ?_
      refine lv_istore (lv' := [(4, .int (0 : Int32)), (3, .int (0 : Int32)), (0, .ref (ad x0)), (1, .int x1), (2, .int x2)]) hx hb dX10_verified_40 hl (by decide) rfl (fun ls hl => ?_)
      exact Kh0 _ _ _ _ _ _ (Option.some.inj hF).symm _ _ _ M (lv_sub hl [2, 3, 4, 1, 0] rfl)
    · have hF := oi_t hc hF
      refine lv_bipush (v := (-2 : Int32)) hx hb dX10_verified_30 (by decide) ?_
      obtain ⟨rfl, rfl⟩ := Prod.mk.inj (Kr _ (Option.some.inj hF).symm)
      exact rt_MI C0 M hr dX10_verified_32
  · have hF := oi_t hc hF
    refine lv_iconst (v := (-1 : Int32)) hx hb dX10_verified_16 (by decide) ?_
    obtain ⟨rfl, rfl⟩ := Prod.mk.inj (Kr _ (Option.some.inj hF).symm)
    exact rt_MI C0 M hr dX10_verified_17
set_option maxHeartbeats 4000000 in
set_option maxRecDepth 100000 in
theorem wX10_verified_75 {p : Program} {l : Launch} {e : Env} {s : State} {m : MethodId} {args : Array Value} {below : List Frame} {meth : Method} {c : Code} {D : va_G} {cy : Nat → ClassId} (ad : Nat → Nat) (A : Nat → Prop) {S : MS} {S' : MS} {H : Heap} {locs : List Loc} {n0 : Nat} {r : Int32} {out : ((Nat × Int32 × Int32 × Int32 × Int32 × MS) ⊕ (Int32 × MS))} {ls : Array Slot} {x0 : Nat} {x1 : Int32} {x2 : Int32} {x4 : Int32} {z0 : Int32} {z1 : Int32} (C0 : CX p s m args meth c RX10 cX10_verified 5 D cy) (M : ST D cy ad A s.heap (ZN n0 s.heap.size) S H locs) (hr : meth.sig.returnType = some .int) (hF : bX10_verified_75 S x0 x1 x2 x4 z0 z1 = some out) (hl : lv_has ls 5 [(0, .ref (ad x0)), (1, .int x1), (2, .int x2), (4, .int x4)]) (Kr : ∀ r9, out = .inr r9 → r9 = (r, S')) (Kh0 : ∀ (y0 : Nat) (y1 : Int32) (y2 : Int32) (y3 : Int32) (y4 : Int32) (S2 : MS), out = .inl (y0, y1, y2, y3, y4, S2) → ∀ (H1 : Heap) (locs1 : List Loc) (ls1 : Array Slot), ST D cy ad A s.heap (ZN n0 s.heap.size) S2 H1 locs1 → lv_has ls1 5 [(0, .ref (ad y0)), (1, .int y1), (2, .int y2), (3, .int y3), (4, .int y4)] → W p l e rmX10_verified s m args below meth c H1 locs1 0 0 (MQ below (QcM D cy ad A n0 S' (some (.int r))) args s 0 0 A) (F0 m 42 ls1 [])) : W p l e rmX10_verified s m args below meth c H locs 0 0 (MQ below (QcM D cy ad A n0 S' (some (.int r))) args s 0 0 A) (F0 m 75 ls [.int z1, .int z0]) := by
  unfold bX10_verified_75 at hF
  obtain ⟨hx, hb, -, hown, -, hts, -⟩ := id C0
  refine lv_ior hx hb dX10_verified_75 ?_
  obtain ⟨v76, hv, hF⟩ := ob hF
  have hv := vtI hv
  refine vtopi hv ?_
  refine lv_istore_n (lv' := [(3, .int v76), (0, .ref (ad x0)), (1, .int x1), (2, .int x2), (4, .int x4)]) hx hb dX10_verified_76 rfl hl (by decide) rfl (fun ls hl => ?_)
  obtain ⟨v77, hv, hF⟩ := ob hF
  refine lv_iinc (v := v77) (lv' := [(4, .int v77), (3, .int v76), (0, .ref (ad x0)), (1, .int x1), (2, .int x2)]) hx hb dX10_verified_77 hl (k := 4) rfl (by rw [← vtI hv]; rfl) (by decide) rfl (fun ls hl => ?_)
  refine lv_goto (tgt := 42) hx hb dX10_verified_80 (by decide) ?_
  exact Kh0 _ _ _ _ _ _ (Option.some.inj hF).symm _ _ _ M (lv_sub hl [2, 3, 4, 1, 0] rfl)
set_option maxHeartbeats 4000000 in
set_option maxRecDepth 100000 in
theorem wX10_verified_109 {p : Program} {l : Launch} {e : Env} {s : State} {m : MethodId} {args : Array Value} {below : List Frame} {meth : Method} {c : Code} {D : va_G} {cy : Nat → ClassId} (ad : Nat → Nat) (A : Nat → Prop) {S : MS} {S' : MS} {H : Heap} {locs : List Loc} {n0 : Nat} {r : Int32} {out : ((Nat × Int32 × Int32 × Int32 × Int32 × MS) ⊕ (Int32 × MS))} {ls : Array Slot} {z0 : Int32} (C0 : CX p s m args meth c RX10 cX10_verified 5 D cy) (M : ST D cy ad A s.heap (ZN n0 s.heap.size) S H locs) (hr : meth.sig.returnType = some .int) (hF : bX10_verified_109 S z0 = some out) (hl : lv_has ls 5 []) (Kr : ∀ r9, out = .inr r9 → r9 = (r, S')) (Kh0 : ∀ (y0 : Nat) (y1 : Int32) (y2 : Int32) (y3 : Int32) (y4 : Int32) (S2 : MS), out = .inl (y0, y1, y2, y3, y4, S2) → ∀ (H1 : Heap) (locs1 : List Loc) (ls1 : Array Slot), ST D cy ad A s.heap (ZN n0 s.heap.size) S2 H1 locs1 → lv_has ls1 5 [(0, .ref (ad y0)), (1, .int y1), (2, .int y2), (3, .int y3), (4, .int y4)] → W p l e rmX10_verified s m args below meth c H1 locs1 0 0 (MQ below (QcM D cy ad A n0 S' (some (.int r))) args s 0 0 A) (F0 m 42 ls1 [])) : W p l e rmX10_verified s m args below meth c H locs 0 0 (MQ below (QcM D cy ad A n0 S' (some (.int r))) args s 0 0 A) (F0 m 109 ls [.int z0]) := by
  unfold bX10_verified_109 at hF
  obtain ⟨hx, hb, -, hown, -, hts, -⟩ := id C0
  obtain ⟨rfl, rfl⟩ := Prod.mk.inj (Kr _ (Option.some.inj hF).symm)
  exact rt_MI C0 M hr dX10_verified_109
set_option maxHeartbeats 4000000 in
set_option maxRecDepth 100000 in
theorem wX10_verified_42 {p : Program} {l : Launch} {e : Env} {s : State} {m : MethodId} {args : Array Value} {below : List Frame} {meth : Method} {c : Code} {D : va_G} {cy : Nat → ClassId} (ad : Nat → Nat) (A : Nat → Prop) {S : MS} {S' : MS} {H : Heap} {locs : List Loc} {n0 : Nat} {r : Int32} {out : ((Nat × Int32 × Int32 × Int32 × Int32 × MS) ⊕ (Int32 × MS))} {ls : Array Slot} {x0 : Nat} {x1 : Int32} {x2 : Int32} {x3 : Int32} {x4 : Int32} (C0 : CX p s m args meth c RX10 cX10_verified 5 D cy) (M : ST D cy ad A s.heap (ZN n0 s.heap.size) S H locs) (hr : meth.sig.returnType = some .int) (hF : bX10_verified_42 S x0 x1 x2 x3 x4 = some out) (hl : lv_has ls 5 [(0, .ref (ad x0)), (1, .int x1), (2, .int x2), (3, .int x3), (4, .int x4)]) (Kr : ∀ r9, out = .inr r9 → r9 = (r, S')) (Kh0 : ∀ (y0 : Nat) (y1 : Int32) (y2 : Int32) (y3 : Int32) (y4 : Int32) (S2 : MS), out = .inl (y0, y1, y2, y3, y4, S2) → ∀ (H1 : Heap) (locs1 : List Loc) (ls1 : Array Slot), ST D cy ad A s.heap (ZN n0 s.heap.size) S2 H1 locs1 → lv_has ls1 5 [(0, .ref (ad y0)), (1, .int y1), (2, .int y2), (3, .int y3), (4, .int y4)] → W p l e rmX10_verified s m args below meth c H1 locs1 0 0 (MQ below (QcM D cy ad A n0 S' (some (.int r))) args s 0 0 A) (F0 m 42 ls1 [])) : W p l e rmX10_verified s m args below meth c H locs 0 0 (MQ below (QcM D cy ad A n0 S' (some (.int r))) args s 0 0 A) (F0 m 42 ls []) := by
  unfold bX10_verified_42 at hF
  obtain ⟨hx, hb, -, hown, -, hts, -⟩ := id C0
  refine lv_iload hx hb dX10_verified_42 (lv_at hl 4 rfl) ?_
  refine lv_aload_n hx hb dX10_verified_44 rfl (lv_at hl 0 rfl) ?_
  obtain ⟨v45, hv, hF⟩ := ob hF
  refine k_getP C0 M.1 hv fl_X10_104 dX10_verified_45 ?_
  refine lv_iload_n hx hb dX10_verified_48 rfl (lv_at hl 1 rfl) ?_
  obtain ⟨v49, hv, hF⟩ := ob hF
  refine k_ld C0 M.1 hv dX10_verified_49 ?_
  refine lv_icmp_ge (tgt := 83) hx hb dX10_verified_50 (by decide) (fun hc => ?_) (fun hc => ?_)
  · have hF := oi_t hc hF
    refine lv_iload_n hx hb dX10_verified_83 rfl (lv_at hl 2 rfl) ?_
    refine lv_if_ne (tgt := 96) hx hb dX10_verified_84 (by decide) (fun hc => ?_) (fun hc => ?_)
    · have hF := oi_f hc hF
      refine lv_iload_n hx hb dX10_verified_96 rfl (lv_at hl 2 rfl) ?_
      refine lv_iconst (v := (1 : Int32)) hx hb dX10_verified_97 (by decide) ?_
      refine lv_icmp_ne (tgt := 108) hx hb dX10_verified_98 (by decide) (fun hc => ?_) (fun hc => ?_)
      · have hF := oi_f hc hF
        refine lv_iload_n hx hb dX10_verified_108 rfl (lv_at hl 3 rfl) ?_
        exact wX10_verified_109 ad A C0 M hr hF (lv_sub hl [] rfl) Kr Kh0
      · have hF := oi_t hc hF
        refine lv_iload_n hx hb dX10_verified_101 rfl (lv_at hl 3 rfl) ?_
        obtain ⟨v102, hcl, hF⟩ := ob hF
        refine go_SI (r_S (rest := []) (As := [.int x3]) C0 cb_X10_266 (tX10_count l D cy ad hcl) (pre_S C0) hl dX10_verified_102 rfl (Nat.le_of_ble_eq_true rfl) ⟨rfl, rfl⟩ ⟨Nat.le_of_ble_eq_true rfl, Nat.le_of_ble_eq_true rfl⟩ ⟨Nat.le_of_ble_eq_true rfl, Nat.le_of_ble_eq_true rfl⟩ rfl) ?_
        refine lv_goto (tgt := 109) hx hb dX10_verified_105 (by decide) ?_
        exact wX10_verified_109 ad A C0 M hr hF (lv_sub hl [] rfl) Kr Kh0
    · have hF := oi_t hc hF
      refine lv_aload_n hx hb dX10_verified_87 rfl (lv_at hl 0 rfl) ?_
      obtain ⟨v88, hv, hF⟩ := ob hF
      refine k_getP C0 M.1 hv fl_X10_104 dX10_verified_88 ?_
      refine lv_iload_n hx hb dX10_verified_91 rfl (lv_at hl 1 rfl) ?_
      obtain ⟨v92, hv, hF⟩ := ob hF
      refine k_ld C0 M.1 hv dX10_verified_92 ?_
      refine lv_goto (tgt := 109) hx hb dX10_verified_93 (by decide) ?_
      exact wX10_verified_109 ad A C0 M hr hF (lv_sub hl [] rfl) Kr Kh0
  · have hF := oi_f hc hF
    refine lv_iload_n hx hb dX10_verified_53 rfl (lv_at hl 3 rfl) ?_
    refine lv_aload_n hx hb dX10_verified_54 rfl (lv_at hl 0 rfl) ?_
    refine lv_iconst (v := (5 : Int32)) hx hb dX10_verified_55 (by decide) ?_
    refine lv_iload_n hx hb dX10_verified_56 rfl (lv_at hl 1 rfl) ?_
    refine lv_imul hx hb dX10_verified_57 ?_
    refine lv_iload hx hb dX10_verified_58 (lv_at hl 4 rfl) ?_
    refine lv_iadd hx hb dX10_verified_60 ?_
    obtain ⟨_, hrec, hF⟩ := ob hF
    obtain ⟨v61, hcl, hF⟩ := ob hF
    refine go_SI (r_V (rest := [.int x3]) (As := [.int (((5 : Int32) * x1) + x4)]) C0 cb_X10_408 M.1 hrec (tX10_isTrue l D cy ad A hcl) (pre_R C0 M.1) hl dX10_verified_61 rfl (Nat.le_of_ble_eq_true rfl) ⟨rfl, rfl⟩ ⟨Nat.le_of_ble_eq_true rfl, Nat.le_of_ble_eq_true rfl⟩ ⟨Nat.le_of_ble_eq_true rfl, Nat.le_of_ble_eq_true rfl⟩ rfl) ?_
    refine lv_if_eq (tgt := 74) hx hb dX10_verified_64 (by decide) (fun hc => ?_) (fun hc => ?_)
    · have hF := oi_t hc hF
      refine lv_iconst (v := (0 : Int32)) hx hb dX10_verified_74 (by decide) ?_
      exact wX10_verified_75 ad A C0 M hr hF (lv_sub hl [0, 1, 2, 4] rfl) Kr Kh0
    · have hF := oi_f hc hF
      refine lv_iconst (v := (1 : Int32)) hx hb dX10_verified_67 (by decide) ?_
      refine lv_iload hx hb dX10_verified_68 (lv_at hl 4 rfl) ?_
      refine lv_ishl hx hb dX10_verified_70 ?_
      refine lv_goto (tgt := 75) hx hb dX10_verified_71 (by decide) ?_
      exact wX10_verified_75 ad A C0 M hr hF (lv_sub hl [0, 1, 2, 4] rfl) Kr Kh0
set_option maxHeartbeats 4000000 in
set_option maxRecDepth 100000 in
theorem tX10_verified (l : Launch) (D : va_G) (cy : Nat → ClassId) (ad : Nat → Nat) (A : Nat → Prop) {S S' : MS} {a0 : Nat} {a1 : Int32} {a2 : Int32} {r : Int32} (h : fX10_verified S a0 a1 a2 = some (r, S')) : Met l yX10_verified [Cond.code yX10_verified cX10_verified 5 (some .int)] rmX10_verified (PcR D cy ad A S [.ref (ad a0), .int a1, .int a2]) (QcM D cy ad A (m_n S) S' (some (.int r))) 0 0 A := by
  refine met_M (by decide +kernel) cw_X10_verified (Nat.le_of_ble_eq_true rfl) ?_
  intro p e s m args below meth c ls C0 M hr hin hl
  have hl : lv_has ls 5 [(0, .ref (ad a0)), (1, .int a1), (2, .int a2)] := hl
  have key := lim_walk (step := sX10_verified) (fun (q : (Nat × Int32 × Int32 × Int32 × Int32 × MS)) (r9 : (Int32 × MS)) => ∀ (r : Int32) (S' : MS), r9 = (r, S') → ((∀ (y0 : Nat) (y1 : Int32) (y2 : Int32) (y3 : Int32) (y4 : Int32) (S2 : MS), q = (y0, y1, y2, y3, y4, S2) → ∀ (H1 : Heap) (locs1 : List Loc) (ls1 : Array Slot), ST D cy ad A s.heap (ZN (m_n S) s.heap.size) S2 H1 locs1 → lv_has ls1 5 [(0, .ref (ad y0)), (1, .int y1), (2, .int y2), (3, .int y3), (4, .int y4)] → W p l e rmX10_verified s m args below meth c H1 locs1 0 0 (MQ below (QcM D cy ad A (m_n S) S' (some (.int r))) args s 0 0 A) (F0 m 42 ls1 [])))) ?_
  · unfold fX10_verified at h
    cases hs0 : bX10_verified_0 S a0 a1 a2 with
    | none => rw [hs0] at h; cases h
    | some out =>
      rw [hs0] at h
      refine wX10_verified_0 ad A C0 M hr hs0 hl (fun r9 hr9 => ?_) ?_
      · subst hr9; exact Option.some.inj h
      · intro y0 y1 y2 y3 y4 y5 hq; subst hq; exact (key _ _ h _ _ rfl) _ _ _ _ _ _ rfl
  · intro q r9 out hst hre hin9
    intro r S' er; subst er
    refine ?_
    · intro y0 y1 y2 y3 y4 y5 hq H1 locs1 ls1 M hl
      subst hq
      exact wX10_verified_42 ad A C0 M hr hst hl hre (fun k0 k1 k2 k3 k4 k5 hk => (hin9 _ hk _ _ rfl) _ _ _ _ _ _ rfl)
set_option maxHeartbeats 4000000 in
set_option maxRecDepth 100000 in
theorem wX10_view_24 {p : Program} {l : Launch} {e : Env} {s : State} {m : MethodId} {args : Array Value} {below : List Frame} {meth : Method} {c : Code} {D : va_G} {cy : Nat → ClassId} (ad : Nat → Nat) (A : Nat → Prop) {S : MS} {S' : MS} {H : Heap} {locs : List Loc} {n0 : Nat} {r : Int32} {ls : Array Slot} (C0 : CX p s m args meth c RX10 cX10_view 3 D cy) (M : ST D cy ad A s.heap (ZN n0 s.heap.size) S H locs) (hr : meth.sig.returnType = some .int) (hF : bX10_view_24 S = some (r, S')) (hl : lv_has ls 3 []) : W p l e rmX10_view s m args below meth c H locs 0 0 (MQ below (QcM D cy ad A n0 S' (some (.int r))) args s 0 0 A) (F0 m 24 ls []) := by
  unfold bX10_view_24 at hF
  obtain ⟨hx, hb, -, hown, -, hts, -⟩ := id C0
  refine lv_bipush (v := (-2 : Int32)) hx hb dX10_view_24 (by decide) ?_
  obtain ⟨rfl, rfl⟩ := Prod.mk.inj (Option.some.inj hF)
  exact rt_MI C0 M hr dX10_view_26
set_option maxHeartbeats 4000000 in
set_option maxRecDepth 100000 in
theorem wX10_view_0 {p : Program} {l : Launch} {e : Env} {s : State} {m : MethodId} {args : Array Value} {below : List Frame} {meth : Method} {c : Code} {D : va_G} {cy : Nat → ClassId} (ad : Nat → Nat) (A : Nat → Prop) {S : MS} {S' : MS} {H : Heap} {locs : List Loc} {n0 : Nat} {r : Int32} {ls : Array Slot} {x0 : Nat} {x1 : Int32} {x2 : Int32} (C0 : CX p s m args meth c RX10 cX10_view 3 D cy) (M : ST D cy ad A s.heap (ZN n0 s.heap.size) S H locs) (hr : meth.sig.returnType = some .int) (hF : bX10_view_0 S x0 x1 x2 = some (r, S')) (hl : lv_has ls 3 [(0, .ref (ad x0)), (1, .int x1), (2, .int x2)]) : W p l e rmX10_view s m args below meth c H locs 0 0 (MQ below (QcM D cy ad A n0 S' (some (.int r))) args s 0 0 A) (F0 m 0 ls []) := by
  unfold bX10_view_0 at hF
  obtain ⟨hx, hb, -, hown, -, hts, -⟩ := id C0
  refine lv_iload_n hx hb dX10_view_0 rfl (lv_at hl 1 rfl) ?_
  refine lv_i2l (v := (x1.toInt64)) hx hb dX10_view_1 rfl ?_
  refine lv_lconst (v := (0 : Int64)) hx hb dX10_view_2 (by decide) ?_
  refine lv_ldc2 (v := (99 : Int64)) hx hb hown (hts _ (uw_of 1269 (by decide +kernel) rfl)) dX10_view_3 ?_
  obtain ⟨v6, hcl, hF⟩ := ob hF
  refine go_SI (r_S (rest := []) (As := [.long (x1.toInt64), .long (0 : Int64), .long (99 : Int64)]) C0 cb_X10_156 (tX10_in l D cy ad hcl) (pre_S C0) hl dX10_view_6 rfl (Nat.le_of_ble_eq_true rfl) ⟨rfl, rfl⟩ ⟨Nat.le_of_ble_eq_true rfl, Nat.le_of_ble_eq_true rfl⟩ ⟨Nat.le_of_ble_eq_true rfl, Nat.le_of_ble_eq_true rfl⟩ rfl) ?_
  refine lv_if_eq (tgt := 24) hx hb dX10_view_9 (by decide) (fun hc => ?_) (fun hc => ?_)
  · have hF := oi_t hc hF
    exact wX10_view_24 ad A C0 M hr hF (lv_sub hl [] rfl)
  · have hF := oi_f hc hF
    refine lv_iload_n hx hb dX10_view_12 rfl (lv_at hl 2 rfl) ?_
    refine lv_i2l (v := (x2.toInt64)) hx hb dX10_view_13 rfl ?_
    refine lv_lconst (v := (0 : Int64)) hx hb dX10_view_14 (by decide) ?_
    refine lv_ldc2 (v := (99 : Int64)) hx hb hown (hts _ (uw_of 1269 (by decide +kernel) rfl)) dX10_view_15 ?_
    obtain ⟨v18, hcl, hF⟩ := ob hF
    refine go_SI (r_S (rest := []) (As := [.long (x2.toInt64), .long (0 : Int64), .long (99 : Int64)]) C0 cb_X10_156 (tX10_in l D cy ad hcl) (pre_S C0) hl dX10_view_18 rfl (Nat.le_of_ble_eq_true rfl) ⟨rfl, rfl⟩ ⟨Nat.le_of_ble_eq_true rfl, Nat.le_of_ble_eq_true rfl⟩ ⟨Nat.le_of_ble_eq_true rfl, Nat.le_of_ble_eq_true rfl⟩ rfl) ?_
    refine lv_if_ne (tgt := 27) hx hb dX10_view_21 (by decide) (fun hc => ?_) (fun hc => ?_)
    · have hF := oi_f hc hF
      refine lv_aload_n hx hb dX10_view_27 rfl (lv_at hl 0 rfl) ?_
      refine lv_iload_n hx hb dX10_view_28 rfl (lv_at hl 1 rfl) ?_
      obtain ⟨S29, hv, hF⟩ := ob hF
      refine k_sI C0 M hv fl_X10_242 dX10_view_29 (fun H locs M => ?_)
      refine lv_aload_n hx hb dX10_view_32 rfl (lv_at hl 0 rfl) ?_
      refine lv_iload_n hx hb dX10_view_33 rfl (lv_at hl 2 rfl) ?_
      obtain ⟨S34, hv, hF⟩ := ob hF
      refine k_sI C0 M hv fl_X10_137 dX10_view_34 (fun H locs M => ?_)
      refine lv_aload_n hx hb dX10_view_37 rfl (lv_at hl 0 rfl) ?_
      refine lv_iconst (v := (0 : Int32)) hx hb dX10_view_38 (by decide) ?_
      have hz : o_zb (0 : Int32) = some (0 : Int32) := rfl
      obtain ⟨S39, hv, hF⟩ := ob hF
      refine k_sZ C0 M hz hv fl_X10_174 dX10_view_39 (fun H locs M => ?_)
      refine lv_aload_n hx hb dX10_view_42 rfl (lv_at hl 0 rfl) ?_
      obtain ⟨_, hrec, hF⟩ := ob hF
      obtain ⟨S43, hcl, hF⟩ := ob hF
      refine go_MV (r_V (rest := []) (As := []) C0 cb_X10_237 M.1 hrec (tX10_layChart l D cy ad A hcl) (pre_R C0 M.1) hl dX10_view_43 rfl (Nat.le_of_ble_eq_true rfl) ⟨rfl, rfl⟩ ⟨Nat.le_of_ble_eq_true rfl, Nat.le_of_ble_eq_true rfl⟩ ⟨Nat.le_of_ble_eq_true rfl, Nat.le_of_ble_eq_true rfl⟩ rfl) M (fun H locs M => ?_)
      refine lv_aload_n hx hb dX10_view_46 rfl (lv_at hl 0 rfl) ?_
      obtain ⟨v47, hv, hF⟩ := ob hF
      refine k_getI C0 M.1 hv fl_X10_272 dX10_view_47 ?_
      obtain ⟨rfl, rfl⟩ := Prod.mk.inj (Option.some.inj hF)
      exact rt_MI C0 M hr dX10_view_50
    · have hF := oi_t hc hF
      exact wX10_view_24 ad A C0 M hr hF (lv_sub hl [] rfl)
set_option maxHeartbeats 4000000 in
set_option maxRecDepth 100000 in
theorem tX10_view (l : Launch) (D : va_G) (cy : Nat → ClassId) (ad : Nat → Nat) (A : Nat → Prop) {S S' : MS} {a0 : Nat} {a1 : Int32} {a2 : Int32} {r : Int32} (h : fX10_view S a0 a1 a2 = some (r, S')) : Met l yX10_view [Cond.code yX10_view cX10_view 3 (some .int)] rmX10_view (PcR D cy ad A S [.ref (ad a0), .int a1, .int a2]) (QcM D cy ad A (m_n S) S' (some (.int r))) 0 0 A := by
  refine met_M (by decide +kernel) cw_X10_view (Nat.le_of_ble_eq_true rfl) ?_
  intro p e s m args below meth c ls C0 M hr hin hl
  have hl : lv_has ls 3 [(0, .ref (ad a0)), (1, .int a1), (2, .int a2)] := hl
  exact wX10_view_0 ad A C0 M hr h hl
set_option maxHeartbeats 4000000 in
set_option maxRecDepth 100000 in
theorem wX10_wire_16 {p : Program} {l : Launch} {e : Env} {s : State} {m : MethodId} {args : Array Value} {below : List Frame} {meth : Method} {c : Code} {D : va_G} {cy : Nat → ClassId} (ad : Nat → Nat) (A : Nat → Prop) {S : MS} {S' : MS} {H : Heap} {locs : List Loc} {n0 : Nat} {r : Int32} {out : (((Nat × Int32 × Int32 × Int32 × Int32 × Int32 × Int32 × MS) ⊕ (Nat × Int32 × Int32 × Int32 × Int32 × Int32 × Int32 × MS)) ⊕ (Int32 × MS))} {ls : Array Slot} {x0 : Nat} (C0 : CX p s m args meth c RX10 cX10_wire 8 D cy) (M : ST D cy ad A s.heap (ZN n0 s.heap.size) S H locs) (hr : meth.sig.returnType = some .int) (hF : bX10_wire_16 S x0 = some out) (hl : lv_has ls 8 [(0, .ref (ad x0))]) (Kr : ∀ r9, out = .inr r9 → r9 = (r, S')) (Kh0 : ∀ (y0 : Nat) (y1 : Int32) (y2 : Int32) (y3 : Int32) (y4 : Int32) (y5 : Int32) (y6 : Int32) (S2 : MS), out = .inl (.inl (y0, y1, y2, y3, y4, y5, y6, S2)) → ∀ (H1 : Heap) (locs1 : List Loc) (ls1 : Array Slot), ST D cy ad A s.heap (ZN n0 s.heap.size) S2 H1 locs1 → lv_has ls1 8 [(0, .ref (ad y0)), (1, .int y1), (2, .int y2), (3, .int y3), (4, .int y4), (6, .int y5), (7, .int y6)] → W p l e rmX10_wire s m args below meth c H1 locs1 0 0 (MQ below (QcM D cy ad A n0 S' (some (.int r))) args s 0 0 A) (F0 m 137 ls1 [])) (Kh1 : ∀ (y0 : Nat) (y1 : Int32) (y2 : Int32) (y3 : Int32) (y4 : Int32) (y5 : Int32) (y6 : Int32) (S2 : MS), out = .inl (.inr (y0, y1, y2, y3, y4, y5, y6, S2)) → ∀ (H1 : Heap) (locs1 : List Loc) (ls1 : Array Slot), ST D cy ad A s.heap (ZN n0 s.heap.size) S2 H1 locs1 → lv_has ls1 8 [(0, .ref (ad y0)), (1, .int y1), (2, .int y2), (3, .int y3), (4, .int y4), (6, .int y5), (7, .int y6)] → W p l e rmX10_wire s m args below meth c H1 locs1 0 0 (MQ below (QcM D cy ad A n0 S' (some (.int r))) args s 0 0 A) (F0 m 205 ls1 [])) : W p l e rmX10_wire s m args below meth c H locs 0 0 (MQ below (QcM D cy ad A n0 S' (some (.int r))) args s 0 0 A) (F0 m 16 ls []) := by
  unfold bX10_wire_16 at hF
  obtain ⟨hx, hb, -, hown, -, hts, -⟩ := id C0
  refine lv_aload_n hx hb dX10_wire_16 rfl (lv_at hl 0 rfl) ?_
  refine lv_iconst (v := (-1 : Int32)) hx hb dX10_wire_17 (by decide) ?_
  obtain ⟨_, hrec, hF⟩ := ob hF
  obtain ⟨v18, S18, hcl, hF⟩ := ob2 hF
  refine go_MI (r_V (rest := []) (As := [.int (-1 : Int32)]) C0 cb_X10_215 M.1 hrec (tX10_refused l D cy ad A hcl) (pre_R C0 M.1) hl dX10_wire_18 rfl (Nat.le_of_ble_eq_true rfl) ⟨rfl, rfl⟩ ⟨Nat.le_of_ble_eq_true rfl, Nat.le_of_ble_eq_true rfl⟩ ⟨Nat.le_of_ble_eq_true rfl, Nat.le_of_ble_eq_true rfl⟩ rfl) M (fun H locs M => ?_)
  obtain ⟨rfl, rfl⟩ := Prod.mk.inj (Kr _ (Option.some.inj hF).symm)
  exact rt_MI C0 M hr dX10_wire_21
set_option maxHeartbeats 4000000 in
set_option maxRecDepth 100000 in
theorem wX10_wire_59 {p : Program} {l : Launch} {e : Env} {s : State} {m : MethodId} {args : Array Value} {below : List Frame} {meth : Method} {c : Code} {D : va_G} {cy : Nat → ClassId} (ad : Nat → Nat) (A : Nat → Prop) {S : MS} {S' : MS} {H : Heap} {locs : List Loc} {n0 : Nat} {r : Int32} {out : (((Nat × Int32 × Int32 × Int32 × Int32 × Int32 × Int32 × MS) ⊕ (Nat × Int32 × Int32 × Int32 × Int32 × Int32 × Int32 × MS)) ⊕ (Int32 × MS))} {ls : Array Slot} {x0 : Nat} (C0 : CX p s m args meth c RX10 cX10_wire 8 D cy) (M : ST D cy ad A s.heap (ZN n0 s.heap.size) S H locs) (hr : meth.sig.returnType = some .int) (hF : bX10_wire_59 S x0 = some out) (hl : lv_has ls 8 [(0, .ref (ad x0))]) (Kr : ∀ r9, out = .inr r9 → r9 = (r, S')) (Kh0 : ∀ (y0 : Nat) (y1 : Int32) (y2 : Int32) (y3 : Int32) (y4 : Int32) (y5 : Int32) (y6 : Int32) (S2 : MS), out = .inl (.inl (y0, y1, y2, y3, y4, y5, y6, S2)) → ∀ (H1 : Heap) (locs1 : List Loc) (ls1 : Array Slot), ST D cy ad A s.heap (ZN n0 s.heap.size) S2 H1 locs1 → lv_has ls1 8 [(0, .ref (ad y0)), (1, .int y1), (2, .int y2), (3, .int y3), (4, .int y4), (6, .int y5), (7, .int y6)] → W p l e rmX10_wire s m args below meth c H1 locs1 0 0 (MQ below (QcM D cy ad A n0 S' (some (.int r))) args s 0 0 A) (F0 m 137 ls1 [])) (Kh1 : ∀ (y0 : Nat) (y1 : Int32) (y2 : Int32) (y3 : Int32) (y4 : Int32) (y5 : Int32) (y6 : Int32) (S2 : MS), out = .inl (.inr (y0, y1, y2, y3, y4, y5, y6, S2)) → ∀ (H1 : Heap) (locs1 : List Loc) (ls1 : Array Slot), ST D cy ad A s.heap (ZN n0 s.heap.size) S2 H1 locs1 → lv_has ls1 8 [(0, .ref (ad y0)), (1, .int y1), (2, .int y2), (3, .int y3), (4, .int y4), (6, .int y5), (7, .int y6)] → W p l e rmX10_wire s m args below meth c H1 locs1 0 0 (MQ below (QcM D cy ad A n0 S' (some (.int r))) args s 0 0 A) (F0 m 205 ls1 [])) : W p l e rmX10_wire s m args below meth c H locs 0 0 (MQ below (QcM D cy ad A n0 S' (some (.int r))) args s 0 0 A) (F0 m 59 ls []) := by
  unfold bX10_wire_59 at hF
  obtain ⟨hx, hb, -, hown, -, hts, -⟩ := id C0
  refine lv_aload_n hx hb dX10_wire_59 rfl (lv_at hl 0 rfl) ?_
  refine lv_bipush (v := (-2 : Int32)) hx hb dX10_wire_60 (by decide) ?_
  obtain ⟨_, hrec, hF⟩ := ob hF
  obtain ⟨v62, S62, hcl, hF⟩ := ob2 hF
  refine go_MI (r_V (rest := []) (As := [.int (-2 : Int32)]) C0 cb_X10_215 M.1 hrec (tX10_refused l D cy ad A hcl) (pre_R C0 M.1) hl dX10_wire_62 rfl (Nat.le_of_ble_eq_true rfl) ⟨rfl, rfl⟩ ⟨Nat.le_of_ble_eq_true rfl, Nat.le_of_ble_eq_true rfl⟩ ⟨Nat.le_of_ble_eq_true rfl, Nat.le_of_ble_eq_true rfl⟩ rfl) M (fun H locs M => ?_)
  obtain ⟨rfl, rfl⟩ := Prod.mk.inj (Kr _ (Option.some.inj hF).symm)
  exact rt_MI C0 M hr dX10_wire_65
set_option maxHeartbeats 4000000 in
set_option maxRecDepth 100000 in
theorem wX10_wire_94 {p : Program} {l : Launch} {e : Env} {s : State} {m : MethodId} {args : Array Value} {below : List Frame} {meth : Method} {c : Code} {D : va_G} {cy : Nat → ClassId} (ad : Nat → Nat) (A : Nat → Prop) {S : MS} {S' : MS} {H : Heap} {locs : List Loc} {n0 : Nat} {r : Int32} {out : (((Nat × Int32 × Int32 × Int32 × Int32 × Int32 × Int32 × MS) ⊕ (Nat × Int32 × Int32 × Int32 × Int32 × Int32 × Int32 × MS)) ⊕ (Int32 × MS))} {ls : Array Slot} {x0 : Nat} {x1 : Int32} {x2 : Int32} {x3 : Int32} {x4 : Int32} {x6 : Int32} (C0 : CX p s m args meth c RX10 cX10_wire 8 D cy) (M : ST D cy ad A s.heap (ZN n0 s.heap.size) S H locs) (hr : meth.sig.returnType = some .int) (hF : bX10_wire_94 S x0 x1 x2 x3 x4 x6 = some out) (hl : lv_has ls 8 [(0, .ref (ad x0)), (1, .int x1), (2, .int x2), (3, .int x3), (4, .int x4), (6, .int x6)]) (Kr : ∀ r9, out = .inr r9 → r9 = (r, S')) (Kh0 : ∀ (y0 : Nat) (y1 : Int32) (y2 : Int32) (y3 : Int32) (y4 : Int32) (y5 : Int32) (y6 : Int32) (S2 : MS), out = .inl (.inl (y0, y1, y2, y3, y4, y5, y6, S2)) → ∀ (H1 : Heap) (locs1 : List Loc) (ls1 : Array Slot), ST D cy ad A s.heap (ZN n0 s.heap.size) S2 H1 locs1 → lv_has ls1 8 [(0, .ref (ad y0)), (1, .int y1), (2, .int y2), (3, .int y3), (4, .int y4), (6, .int y5), (7, .int y6)] → W p l e rmX10_wire s m args below meth c H1 locs1 0 0 (MQ below (QcM D cy ad A n0 S' (some (.int r))) args s 0 0 A) (F0 m 137 ls1 [])) (Kh1 : ∀ (y0 : Nat) (y1 : Int32) (y2 : Int32) (y3 : Int32) (y4 : Int32) (y5 : Int32) (y6 : Int32) (S2 : MS), out = .inl (.inr (y0, y1, y2, y3, y4, y5, y6, S2)) → ∀ (H1 : Heap) (locs1 : List Loc) (ls1 : Array Slot), ST D cy ad A s.heap (ZN n0 s.heap.size) S2 H1 locs1 → lv_has ls1 8 [(0, .ref (ad y0)), (1, .int y1), (2, .int y2), (3, .int y3), (4, .int y4), (6, .int y5), (7, .int y6)] → W p l e rmX10_wire s m args below meth c H1 locs1 0 0 (MQ below (QcM D cy ad A n0 S' (some (.int r))) args s 0 0 A) (F0 m 205 ls1 [])) : W p l e rmX10_wire s m args below meth c H locs 0 0 (MQ below (QcM D cy ad A n0 S' (some (.int r))) args s 0 0 A) (F0 m 94 ls []) := by
  unfold bX10_wire_94 at hF
  obtain ⟨hx, hb, -, hown, -, hts, -⟩ := id C0
  refine lv_aload_n hx hb dX10_wire_94 rfl (lv_at hl 0 rfl) ?_
  obtain ⟨v95, hv, hF⟩ := ob hF
  refine k_getP C0 M.1 hv fl_X10_125 dX10_wire_95 ?_
  refine lv_iload hx hb dX10_wire_98 (lv_at hl 4 rfl) ?_
  obtain ⟨v100, hv, hF⟩ := ob hF
  refine k_ld C0 M.1 hv dX10_wire_100 ?_
  refine lv_if_ge (tgt := 110) hx hb dX10_wire_101 (by decide) (fun hc => ?_) (fun hc => ?_)
  · have hF := oi_t hc hF
    refine lv_iload hx hb dX10_wire_110 (lv_at hl 5 rfl) ?_
    refine lv_ldc2 (v := (15 : Int64)) hx hb hown (hts _ (uw_of 1296 (by decide +kernel) rfl)) dX10_wire_112 ?_
    refine lv_aload_n hx hb dX10_wire_115 rfl (lv_at hl 0 rfl) ?_
    obtain ⟨v116, hv, hF⟩ := ob hF
    refine k_getP C0 M.1 hv fl_X10_125 dX10_wire_116 ?_
    refine lv_iload hx hb dX10_wire_119 (lv_at hl 4 rfl) ?_
    obtain ⟨v121, hv, hF⟩ := ob hF
    refine k_ld C0 M.1 hv dX10_wire_121 ?_
    obtain ⟨v122, hcl, hF⟩ := ob hF
    refine go_SI (r_S (rest := []) (As := [.int x6, .long (15 : Int64), .int v121]) C0 cb_X10_223 (tX10_isBeyond l D cy ad hcl) (pre_S C0) hl dX10_wire_122 rfl (Nat.le_of_ble_eq_true rfl) ⟨rfl, rfl⟩ ⟨Nat.le_of_ble_eq_true rfl, Nat.le_of_ble_eq_true rfl⟩ ⟨Nat.le_of_ble_eq_true rfl, Nat.le_of_ble_eq_true rfl⟩ rfl) ?_
    refine lv_if_eq (tgt := 134) hx hb dX10_wire_125 (by decide) (fun hc => ?_) (fun hc => ?_)
    · have hF := oi_t hc hF
      refine lv_iconst (v := (0 : Int32)) hx hb dX10_wire_134 (by decide) ?_
      refine lv_istore (lv' := [(7, .int (0 : Int32)), (0, .ref (ad x0)), (1, .int x1), (2, .int x2), (3, .int x3), (4, .int x4), (6, .int x6)]) hx hb dX10_wire_135 hl (by decide) rfl (fun ls hl => ?_)
      exact Kh0 _ _ _ _ _ _ _ _ (Option.some.inj hF).symm _ _ _ M (lv_sub hl [1, 2, 3, 4, 5, 6, 0] rfl)
    · have hF := oi_f hc hF
      refine lv_aload_n hx hb dX10_wire_128 rfl (lv_at hl 0 rfl) ?_
      refine lv_iconst (v := (3 : Int32)) hx hb dX10_wire_129 (by decide) ?_
      obtain ⟨_, hrec, hF⟩ := ob hF
      obtain ⟨v130, S130, hcl, hF⟩ := ob2 hF
      refine go_MI (r_V (rest := []) (As := [.int (3 : Int32)]) C0 cb_X10_218 M.1 hrec (tX10_failed l D cy ad A hcl) (pre_R C0 M.1) hl dX10_wire_130 rfl (Nat.le_of_ble_eq_true rfl) ⟨rfl, rfl⟩ ⟨Nat.le_of_ble_eq_true rfl, Nat.le_of_ble_eq_true rfl⟩ ⟨Nat.le_of_ble_eq_true rfl, Nat.le_of_ble_eq_true rfl⟩ rfl) M (fun H locs M => ?_)
      obtain ⟨rfl, rfl⟩ := Prod.mk.inj (Kr _ (Option.some.inj hF).symm)
      exact rt_MI C0 M hr dX10_wire_133
  · have hF := oi_f hc hF
    refine lv_aload_n hx hb dX10_wire_104 rfl (lv_at hl 0 rfl) ?_
    refine lv_iconst (v := (1 : Int32)) hx hb dX10_wire_105 (by decide) ?_
    obtain ⟨_, hrec, hF⟩ := ob hF
    obtain ⟨v106, S106, hcl, hF⟩ := ob2 hF
    refine go_MI (r_V (rest := []) (As := [.int (1 : Int32)]) C0 cb_X10_218 M.1 hrec (tX10_failed l D cy ad A hcl) (pre_R C0 M.1) hl dX10_wire_106 rfl (Nat.le_of_ble_eq_true rfl) ⟨rfl, rfl⟩ ⟨Nat.le_of_ble_eq_true rfl, Nat.le_of_ble_eq_true rfl⟩ ⟨Nat.le_of_ble_eq_true rfl, Nat.le_of_ble_eq_true rfl⟩ rfl) M (fun H locs M => ?_)
    obtain ⟨rfl, rfl⟩ := Prod.mk.inj (Kr _ (Option.some.inj hF).symm)
    exact rt_MI C0 M hr dX10_wire_109
set_option maxHeartbeats 4000000 in
set_option maxRecDepth 100000 in
theorem wX10_wire_0 {p : Program} {l : Launch} {e : Env} {s : State} {m : MethodId} {args : Array Value} {below : List Frame} {meth : Method} {c : Code} {D : va_G} {cy : Nat → ClassId} (ad : Nat → Nat) (A : Nat → Prop) {S : MS} {S' : MS} {H : Heap} {locs : List Loc} {n0 : Nat} {r : Int32} {out : (((Nat × Int32 × Int32 × Int32 × Int32 × Int32 × Int32 × MS) ⊕ (Nat × Int32 × Int32 × Int32 × Int32 × Int32 × Int32 × MS)) ⊕ (Int32 × MS))} {ls : Array Slot} {x0 : Nat} {x1 : Int32} {x2 : Int32} {x3 : Int32} {x4 : Int32} {x5 : Int32} {x6 : Int32} (C0 : CX p s m args meth c RX10 cX10_wire 8 D cy) (M : ST D cy ad A s.heap (ZN n0 s.heap.size) S H locs) (hr : meth.sig.returnType = some .int) (hF : bX10_wire_0 S x0 x1 x2 x3 x4 x5 x6 = some out) (hl : lv_has ls 8 [(0, .ref (ad x0)), (1, .int x1), (2, .int x2), (3, .int x3), (4, .int x4), (5, .int x5), (6, .int x6)]) (Kr : ∀ r9, out = .inr r9 → r9 = (r, S')) (Kh0 : ∀ (y0 : Nat) (y1 : Int32) (y2 : Int32) (y3 : Int32) (y4 : Int32) (y5 : Int32) (y6 : Int32) (S2 : MS), out = .inl (.inl (y0, y1, y2, y3, y4, y5, y6, S2)) → ∀ (H1 : Heap) (locs1 : List Loc) (ls1 : Array Slot), ST D cy ad A s.heap (ZN n0 s.heap.size) S2 H1 locs1 → lv_has ls1 8 [(0, .ref (ad y0)), (1, .int y1), (2, .int y2), (3, .int y3), (4, .int y4), (6, .int y5), (7, .int y6)] → W p l e rmX10_wire s m args below meth c H1 locs1 0 0 (MQ below (QcM D cy ad A n0 S' (some (.int r))) args s 0 0 A) (F0 m 137 ls1 [])) (Kh1 : ∀ (y0 : Nat) (y1 : Int32) (y2 : Int32) (y3 : Int32) (y4 : Int32) (y5 : Int32) (y6 : Int32) (S2 : MS), out = .inl (.inr (y0, y1, y2, y3, y4, y5, y6, S2)) → ∀ (H1 : Heap) (locs1 : List Loc) (ls1 : Array Slot), ST D cy ad A s.heap (ZN n0 s.heap.size) S2 H1 locs1 → lv_has ls1 8 [(0, .ref (ad y0)), (1, .int y1), (2, .int y2), (3, .int y3), (4, .int y4), (6, .int y5), (7, .int y6)] → W p l e rmX10_wire s m args below meth c H1 locs1 0 0 (MQ below (QcM D cy ad A n0 S' (some (.int r))) args s 0 0 A) (F0 m 205 ls1 [])) : W p l e rmX10_wire s m args below meth c H locs 0 0 (MQ below (QcM D cy ad A n0 S' (some (.int r))) args s 0 0 A) (F0 m 0 ls []) := by
  unfold bX10_wire_0 at hF
  obtain ⟨hx, hb, -, hown, -, hts, -⟩ := id C0
  refine lv_aload_n hx hb dX10_wire_0 rfl (lv_at hl 0 rfl) ?_
  refine lv_iload_n hx hb dX10_wire_1 rfl (lv_at hl 1 rfl) ?_
  obtain ⟨_, hrec, hF⟩ := ob hF
  obtain ⟨v2, hcl, hF⟩ := ob hF
  refine go_SI (r_V (rest := []) (As := [.int x1]) C0 cb_X10_186 M.1 hrec (tX10_noPost l D cy ad A hcl) (pre_R C0 M.1) hl dX10_wire_2 rfl (Nat.le_of_ble_eq_true rfl) ⟨rfl, rfl⟩ ⟨Nat.le_of_ble_eq_true rfl, Nat.le_of_ble_eq_true rfl⟩ ⟨Nat.le_of_ble_eq_true rfl, Nat.le_of_ble_eq_true rfl⟩ rfl) ?_
  refine lv_if_ne (tgt := 16) hx hb dX10_wire_5 (by decide) (fun hc => ?_) (fun hc => ?_)
  · have hF := oi_f hc hF
    exact wX10_wire_16 ad A C0 M hr hF (lv_sub hl [0] rfl) Kr Kh0 Kh1
  · have hF := oi_t hc hF
    refine lv_iload hx hb dX10_wire_8 (lv_at hl 4 rfl) ?_
    obtain ⟨v10, hcl, hF⟩ := ob hF
    refine go_SI (r_S (rest := []) (As := [.int x4]) C0 cb_X10_212 (tX10_noSheet l D cy ad hcl) (pre_S C0) hl dX10_wire_10 rfl (Nat.le_of_ble_eq_true rfl) ⟨rfl, rfl⟩ ⟨Nat.le_of_ble_eq_true rfl, Nat.le_of_ble_eq_true rfl⟩ ⟨Nat.le_of_ble_eq_true rfl, Nat.le_of_ble_eq_true rfl⟩ rfl) ?_
    refine lv_if_eq (tgt := 22) hx hb dX10_wire_13 (by decide) (fun hc => ?_) (fun hc => ?_)
    · have hF := oi_t hc hF
      refine lv_iload hx hb dX10_wire_22 (lv_at hl 5 rfl) ?_
      refine lv_i2l (v := (x5.toInt64)) hx hb dX10_wire_24 rfl ?_
      refine lv_lconst (v := (0 : Int64)) hx hb dX10_wire_25 (by decide) ?_
      refine lv_ldc2 (v := (2 : Int64)) hx hb hown (hts _ (uw_of 1250 (by decide +kernel) rfl)) dX10_wire_26 ?_
      obtain ⟨v29, hcl, hF⟩ := ob hF
      refine go_SI (r_S (rest := []) (As := [.long (x5.toInt64), .long (0 : Int64), .long (2 : Int64)]) C0 cb_X10_156 (tX10_in l D cy ad hcl) (pre_S C0) hl dX10_wire_29 rfl (Nat.le_of_ble_eq_true rfl) ⟨rfl, rfl⟩ ⟨Nat.le_of_ble_eq_true rfl, Nat.le_of_ble_eq_true rfl⟩ ⟨Nat.le_of_ble_eq_true rfl, Nat.le_of_ble_eq_true rfl⟩ rfl) ?_
      refine lv_if_eq (tgt := 59) hx hb dX10_wire_32 (by decide) (fun hc => ?_) (fun hc => ?_)
      · have hF := oi_t hc hF
        exact wX10_wire_59 ad A C0 M hr hF (lv_sub hl [0] rfl) Kr Kh0 Kh1
      · have hF := oi_f hc hF
        refine lv_iload_n hx hb dX10_wire_35 rfl (lv_at hl 2 rfl) ?_
        refine lv_i2l (v := (x2.toInt64)) hx hb dX10_wire_36 rfl ?_
        refine lv_lconst (v := (0 : Int64)) hx hb dX10_wire_37 (by decide) ?_
        refine lv_ldc2 (v := (99 : Int64)) hx hb hown (hts _ (uw_of 1269 (by decide +kernel) rfl)) dX10_wire_38 ?_
        obtain ⟨v41, hcl, hF⟩ := ob hF
        refine go_SI (r_S (rest := []) (As := [.long (x2.toInt64), .long (0 : Int64), .long (99 : Int64)]) C0 cb_X10_156 (tX10_in l D cy ad hcl) (pre_S C0) hl dX10_wire_41 rfl (Nat.le_of_ble_eq_true rfl) ⟨rfl, rfl⟩ ⟨Nat.le_of_ble_eq_true rfl, Nat.le_of_ble_eq_true rfl⟩ ⟨Nat.le_of_ble_eq_true rfl, Nat.le_of_ble_eq_true rfl⟩ rfl) ?_
        refine lv_if_eq (tgt := 59) hx hb dX10_wire_44 (by decide) (fun hc => ?_) (fun hc => ?_)
        · have hF := oi_t hc hF
          exact wX10_wire_59 ad A C0 M hr hF (lv_sub hl [0] rfl) Kr Kh0 Kh1
        · have hF := oi_f hc hF
          refine lv_iload_n hx hb dX10_wire_47 rfl (lv_at hl 3 rfl) ?_
          refine lv_i2l (v := (x3.toInt64)) hx hb dX10_wire_48 rfl ?_
          refine lv_lconst (v := (0 : Int64)) hx hb dX10_wire_49 (by decide) ?_
          refine lv_ldc2 (v := (99 : Int64)) hx hb hown (hts _ (uw_of 1269 (by decide +kernel) rfl)) dX10_wire_50 ?_
          obtain ⟨v53, hcl, hF⟩ := ob hF
          refine go_SI (r_S (rest := []) (As := [.long (x3.toInt64), .long (0 : Int64), .long (99 : Int64)]) C0 cb_X10_156 (tX10_in l D cy ad hcl) (pre_S C0) hl dX10_wire_53 rfl (Nat.le_of_ble_eq_true rfl) ⟨rfl, rfl⟩ ⟨Nat.le_of_ble_eq_true rfl, Nat.le_of_ble_eq_true rfl⟩ ⟨Nat.le_of_ble_eq_true rfl, Nat.le_of_ble_eq_true rfl⟩ rfl) ?_
          refine lv_if_ne (tgt := 66) hx hb dX10_wire_56 (by decide) (fun hc => ?_) (fun hc => ?_)
          · have hF := oi_f hc hF
            refine lv_aload_n hx hb dX10_wire_66 rfl (lv_at hl 0 rfl) ?_
            obtain ⟨v67, hv, hF⟩ := ob hF
            refine k_getP C0 M.1 hv fl_X10_125 dX10_wire_67 ?_
            refine lv_iload hx hb dX10_wire_70 (lv_at hl 4 rfl) ?_
            obtain ⟨v72, hv, hF⟩ := ob hF
            refine k_ld C0 M.1 hv dX10_wire_72 ?_
            refine lv_if_lt (tgt := 94) hx hb dX10_wire_73 (by decide) (fun hc => ?_) (fun hc => ?_)
            · have hF := oi_t hc hF
              exact wX10_wire_94 ad A C0 M hr hF (lv_sub hl [0, 1, 2, 3, 4, 6] rfl) Kr Kh0 Kh1
            · have hF := oi_f hc hF
              refine lv_aload_n hx hb dX10_wire_76 rfl (lv_at hl 0 rfl) ?_
              obtain ⟨v77, hv, hF⟩ := ob hF
              refine k_getP C0 M.1 hv fl_X10_128 dX10_wire_77 ?_
              refine lv_iload hx hb dX10_wire_80 (lv_at hl 4 rfl) ?_
              obtain ⟨v82, hv, hF⟩ := ob hF
              refine k_ld C0 M.1 hv dX10_wire_82 ?_
              refine lv_iload hx hb dX10_wire_83 (lv_at hl 5 rfl) ?_
              refine lv_icmp_eq (tgt := 94) hx hb dX10_wire_85 (by decide) (fun hc => ?_) (fun hc => ?_)
              · have hF := oi_t hc hF
                exact wX10_wire_94 ad A C0 M hr hF (lv_sub hl [0, 1, 2, 3, 4, 6] rfl) Kr Kh0 Kh1
              · have hF := oi_f hc hF
                refine lv_aload_n hx hb dX10_wire_88 rfl (lv_at hl 0 rfl) ?_
                refine lv_iconst (v := (2 : Int32)) hx hb dX10_wire_89 (by decide) ?_
                obtain ⟨_, hrec, hF⟩ := ob hF
                obtain ⟨v90, S90, hcl, hF⟩ := ob2 hF
                refine go_MI (r_V (rest := []) (As := [.int (2 : Int32)]) C0 cb_X10_218 M.1 hrec (tX10_failed l D cy ad A hcl) (pre_R C0 M.1) hl dX10_wire_90 rfl (Nat.le_of_ble_eq_true rfl) ⟨rfl, rfl⟩ ⟨Nat.le_of_ble_eq_true rfl, Nat.le_of_ble_eq_true rfl⟩ ⟨Nat.le_of_ble_eq_true rfl, Nat.le_of_ble_eq_true rfl⟩ rfl) M (fun H locs M => ?_)
                obtain ⟨rfl, rfl⟩ := Prod.mk.inj (Kr _ (Option.some.inj hF).symm)
                exact rt_MI C0 M hr dX10_wire_93
          · have hF := oi_t hc hF
            exact wX10_wire_59 ad A C0 M hr hF (lv_sub hl [0] rfl) Kr Kh0 Kh1
    · have hF := oi_f hc hF
      exact wX10_wire_16 ad A C0 M hr hF (lv_sub hl [0] rfl) Kr Kh0 Kh1
set_option maxHeartbeats 4000000 in
set_option maxRecDepth 100000 in
theorem wX10_wire_137 {p : Program} {l : Launch} {e : Env} {s : State} {m : MethodId} {args : Array Value} {below : List Frame} {meth : Method} {c : Code} {D : va_G} {cy : Nat → ClassId} (ad : Nat → Nat) (A : Nat → Prop) {S : MS} {S' : MS} {H : Heap} {locs : List Loc} {n0 : Nat} {r : Int32} {out : (((Nat × Int32 × Int32 × Int32 × Int32 × Int32 × Int32 × MS) ⊕ (Nat × Int32 × Int32 × Int32 × Int32 × Int32 × Int32 × MS)) ⊕ (Int32 × MS))} {ls : Array Slot} {x0 : Nat} {x1 : Int32} {x2 : Int32} {x3 : Int32} {x4 : Int32} {x6 : Int32} {x7 : Int32} (C0 : CX p s m args meth c RX10 cX10_wire 8 D cy) (M : ST D cy ad A s.heap (ZN n0 s.heap.size) S H locs) (hr : meth.sig.returnType = some .int) (hF : bX10_wire_137 S x0 x1 x2 x3 x4 x6 x7 = some out) (hl : lv_has ls 8 [(0, .ref (ad x0)), (1, .int x1), (2, .int x2), (3, .int x3), (4, .int x4), (6, .int x6), (7, .int x7)]) (Kr : ∀ r9, out = .inr r9 → r9 = (r, S')) (Kh0 : ∀ (y0 : Nat) (y1 : Int32) (y2 : Int32) (y3 : Int32) (y4 : Int32) (y5 : Int32) (y6 : Int32) (S2 : MS), out = .inl (.inl (y0, y1, y2, y3, y4, y5, y6, S2)) → ∀ (H1 : Heap) (locs1 : List Loc) (ls1 : Array Slot), ST D cy ad A s.heap (ZN n0 s.heap.size) S2 H1 locs1 → lv_has ls1 8 [(0, .ref (ad y0)), (1, .int y1), (2, .int y2), (3, .int y3), (4, .int y4), (6, .int y5), (7, .int y6)] → W p l e rmX10_wire s m args below meth c H1 locs1 0 0 (MQ below (QcM D cy ad A n0 S' (some (.int r))) args s 0 0 A) (F0 m 137 ls1 [])) (Kh1 : ∀ (y0 : Nat) (y1 : Int32) (y2 : Int32) (y3 : Int32) (y4 : Int32) (y5 : Int32) (y6 : Int32) (S2 : MS), out = .inl (.inr (y0, y1, y2, y3, y4, y5, y6, S2)) → ∀ (H1 : Heap) (locs1 : List Loc) (ls1 : Array Slot), ST D cy ad A s.heap (ZN n0 s.heap.size) S2 H1 locs1 → lv_has ls1 8 [(0, .ref (ad y0)), (1, .int y1), (2, .int y2), (3, .int y3), (4, .int y4), (6, .int y5), (7, .int y6)] → W p l e rmX10_wire s m args below meth c H1 locs1 0 0 (MQ below (QcM D cy ad A n0 S' (some (.int r))) args s 0 0 A) (F0 m 205 ls1 [])) : W p l e rmX10_wire s m args below meth c H locs 0 0 (MQ below (QcM D cy ad A n0 S' (some (.int r))) args s 0 0 A) (F0 m 137 ls []) := by
  unfold bX10_wire_137 at hF
  obtain ⟨hx, hb, -, hown, -, hts, -⟩ := id C0
  refine lv_iload hx hb dX10_wire_137 (lv_at hl 6 rfl) ?_
  refine lv_bipush (v := (15 : Int32)) hx hb dX10_wire_139 (by decide) ?_
  refine lv_icmp_ge (tgt := 186) hx hb dX10_wire_141 (by decide) (fun hc => ?_) (fun hc => ?_)
  · have hF := oi_t hc hF
    refine lv_aload_n hx hb dX10_wire_186 rfl (lv_at hl 0 rfl) ?_
    obtain ⟨v187, hv, hF⟩ := ob hF
    refine k_getI C0 M.1 hv fl_X10_201 dX10_wire_187 ?_
    refine lv_bipush (v := (30 : Int32)) hx hb dX10_wire_190 (by decide) ?_
    refine lv_icmp_ne (tgt := 202) hx hb dX10_wire_192 (by decide) (fun hc => ?_) (fun hc => ?_)
    · have hF := oi_f hc hF
      refine lv_iconst (v := (0 : Int32)) hx hb dX10_wire_202 (by decide) ?_
      refine lv_istore (lv' := [(7, .int (0 : Int32)), (0, .ref (ad x0)), (1, .int x1), (2, .int x2), (3, .int x3), (4, .int x4), (6, .int x6)]) hx hb dX10_wire_203 hl (by decide) rfl (fun ls hl => ?_)
      exact Kh1 _ _ _ _ _ _ _ _ (Option.some.inj hF).symm _ _ _ M (lv_sub hl [1, 2, 3, 4, 5, 6, 0] rfl)
    · have hF := oi_t hc hF
      refine lv_aload_n hx hb dX10_wire_195 rfl (lv_at hl 0 rfl) ?_
      refine lv_bipush (v := (-4 : Int32)) hx hb dX10_wire_196 (by decide) ?_
      obtain ⟨_, hrec, hF⟩ := ob hF
      obtain ⟨v198, S198, hcl, hF⟩ := ob2 hF
      refine go_MI (r_V (rest := []) (As := [.int (-4 : Int32)]) C0 cb_X10_215 M.1 hrec (tX10_refused l D cy ad A hcl) (pre_R C0 M.1) hl dX10_wire_198 rfl (Nat.le_of_ble_eq_true rfl) ⟨rfl, rfl⟩ ⟨Nat.le_of_ble_eq_true rfl, Nat.le_of_ble_eq_true rfl⟩ ⟨Nat.le_of_ble_eq_true rfl, Nat.le_of_ble_eq_true rfl⟩ rfl) M (fun H locs M => ?_)
      obtain ⟨rfl, rfl⟩ := Prod.mk.inj (Kr _ (Option.some.inj hF).symm)
      exact rt_MI C0 M hr dX10_wire_201
  · have hF := oi_f hc hF
    refine lv_aload_n hx hb dX10_wire_144 rfl (lv_at hl 0 rfl) ?_
    obtain ⟨v145, hv, hF⟩ := ob hF
    refine k_getP C0 M.1 hv fl_X10_131 dX10_wire_145 ?_
    refine lv_bipush (v := (60 : Int32)) hx hb dX10_wire_148 (by decide) ?_
    refine lv_iload hx hb dX10_wire_150 (lv_at hl 4 rfl) ?_
    refine lv_imul hx hb dX10_wire_152 ?_
    refine lv_iload hx hb dX10_wire_153 (lv_at hl 5 rfl) ?_
    refine lv_iadd hx hb dX10_wire_155 ?_
    refine lv_iload hx hb dX10_wire_156 (lv_at hl 6 rfl) ?_
    refine lv_iadd hx hb dX10_wire_158 ?_
    obtain ⟨v159, hv, hF⟩ := ob hF
    refine k_ld C0 M.1 hv dX10_wire_159 ?_
    refine lv_i2l (v := (v159.toInt64)) hx hb dX10_wire_160 rfl ?_
    refine lv_ldc2 (v := (-1 : Int64)) hx hb hown (hts _ (uw_of 1300 (by decide +kernel) rfl)) dX10_wire_161 ?_
    refine lv_ldc2 (v := (9 : Int64)) hx hb hown (hts _ (uw_of 1301 (by decide +kernel) rfl)) dX10_wire_164 ?_
    obtain ⟨v167, hcl, hF⟩ := ob hF
    refine go_SI (r_S (rest := []) (As := [.long (v159.toInt64), .long (-1 : Int64), .long (9 : Int64)]) C0 cb_X10_156 (tX10_in l D cy ad hcl) (pre_S C0) hl dX10_wire_167 rfl (Nat.le_of_ble_eq_true rfl) ⟨rfl, rfl⟩ ⟨Nat.le_of_ble_eq_true rfl, Nat.le_of_ble_eq_true rfl⟩ ⟨Nat.le_of_ble_eq_true rfl, Nat.le_of_ble_eq_true rfl⟩ rfl) ?_
    refine lv_if_ne (tgt := 180) hx hb dX10_wire_170 (by decide) (fun hc => ?_) (fun hc => ?_)
    · have hF := oi_f hc hF
      obtain ⟨v180, hv, hF⟩ := ob hF
      refine lv_iinc (v := v180) (lv' := [(7, .int v180), (0, .ref (ad x0)), (1, .int x1), (2, .int x2), (3, .int x3), (4, .int x4), (6, .int x6)]) hx hb dX10_wire_180 hl (k := 6) rfl (by rw [← vtI hv]; rfl) (by decide) rfl (fun ls hl => ?_)
      refine lv_goto (tgt := 137) hx hb dX10_wire_183 (by decide) ?_
      exact Kh0 _ _ _ _ _ _ _ _ (Option.some.inj hF).symm _ _ _ M (lv_sub hl [1, 2, 3, 4, 5, 6, 0] rfl)
    · have hF := oi_t hc hF
      refine lv_aload_n hx hb dX10_wire_173 rfl (lv_at hl 0 rfl) ?_
      refine lv_bipush (v := (-2 : Int32)) hx hb dX10_wire_174 (by decide) ?_
      obtain ⟨_, hrec, hF⟩ := ob hF
      obtain ⟨v176, S176, hcl, hF⟩ := ob2 hF
      refine go_MI (r_V (rest := []) (As := [.int (-2 : Int32)]) C0 cb_X10_215 M.1 hrec (tX10_refused l D cy ad A hcl) (pre_R C0 M.1) hl dX10_wire_176 rfl (Nat.le_of_ble_eq_true rfl) ⟨rfl, rfl⟩ ⟨Nat.le_of_ble_eq_true rfl, Nat.le_of_ble_eq_true rfl⟩ ⟨Nat.le_of_ble_eq_true rfl, Nat.le_of_ble_eq_true rfl⟩ rfl) M (fun H locs M => ?_)
      obtain ⟨rfl, rfl⟩ := Prod.mk.inj (Kr _ (Option.some.inj hF).symm)
      exact rt_MI C0 M hr dX10_wire_179
set_option maxHeartbeats 4000000 in
set_option maxRecDepth 100000 in
theorem wX10_wire_205 {p : Program} {l : Launch} {e : Env} {s : State} {m : MethodId} {args : Array Value} {below : List Frame} {meth : Method} {c : Code} {D : va_G} {cy : Nat → ClassId} (ad : Nat → Nat) (A : Nat → Prop) {S : MS} {S' : MS} {H : Heap} {locs : List Loc} {n0 : Nat} {r : Int32} {out : (((Nat × Int32 × Int32 × Int32 × Int32 × Int32 × Int32 × MS) ⊕ (Nat × Int32 × Int32 × Int32 × Int32 × Int32 × Int32 × MS)) ⊕ (Int32 × MS))} {ls : Array Slot} {x0 : Nat} {x1 : Int32} {x2 : Int32} {x3 : Int32} {x4 : Int32} {x6 : Int32} {x7 : Int32} (C0 : CX p s m args meth c RX10 cX10_wire 8 D cy) (M : ST D cy ad A s.heap (ZN n0 s.heap.size) S H locs) (hr : meth.sig.returnType = some .int) (hF : bX10_wire_205 S x0 x1 x2 x3 x4 x6 x7 = some out) (hl : lv_has ls 8 [(0, .ref (ad x0)), (1, .int x1), (2, .int x2), (3, .int x3), (4, .int x4), (6, .int x6), (7, .int x7)]) (Kr : ∀ r9, out = .inr r9 → r9 = (r, S')) (Kh0 : ∀ (y0 : Nat) (y1 : Int32) (y2 : Int32) (y3 : Int32) (y4 : Int32) (y5 : Int32) (y6 : Int32) (S2 : MS), out = .inl (.inl (y0, y1, y2, y3, y4, y5, y6, S2)) → ∀ (H1 : Heap) (locs1 : List Loc) (ls1 : Array Slot), ST D cy ad A s.heap (ZN n0 s.heap.size) S2 H1 locs1 → lv_has ls1 8 [(0, .ref (ad y0)), (1, .int y1), (2, .int y2), (3, .int y3), (4, .int y4), (6, .int y5), (7, .int y6)] → W p l e rmX10_wire s m args below meth c H1 locs1 0 0 (MQ below (QcM D cy ad A n0 S' (some (.int r))) args s 0 0 A) (F0 m 137 ls1 [])) (Kh1 : ∀ (y0 : Nat) (y1 : Int32) (y2 : Int32) (y3 : Int32) (y4 : Int32) (y5 : Int32) (y6 : Int32) (S2 : MS), out = .inl (.inr (y0, y1, y2, y3, y4, y5, y6, S2)) → ∀ (H1 : Heap) (locs1 : List Loc) (ls1 : Array Slot), ST D cy ad A s.heap (ZN n0 s.heap.size) S2 H1 locs1 → lv_has ls1 8 [(0, .ref (ad y0)), (1, .int y1), (2, .int y2), (3, .int y3), (4, .int y4), (6, .int y5), (7, .int y6)] → W p l e rmX10_wire s m args below meth c H1 locs1 0 0 (MQ below (QcM D cy ad A n0 S' (some (.int r))) args s 0 0 A) (F0 m 205 ls1 [])) : W p l e rmX10_wire s m args below meth c H locs 0 0 (MQ below (QcM D cy ad A n0 S' (some (.int r))) args s 0 0 A) (F0 m 205 ls []) := by
  unfold bX10_wire_205 at hF
  obtain ⟨hx, hb, -, hown, -, hts, -⟩ := id C0
  refine lv_iload hx hb dX10_wire_205 (lv_at hl 6 rfl) ?_
  refine lv_bipush (v := (15 : Int32)) hx hb dX10_wire_207 (by decide) ?_
  refine lv_icmp_ge (tgt := 249) hx hb dX10_wire_209 (by decide) (fun hc => ?_) (fun hc => ?_)
  · have hF := oi_t hc hF
    refine lv_aload_n hx hb dX10_wire_249 rfl (lv_at hl 0 rfl) ?_
    obtain ⟨v250, hv, hF⟩ := ob hF
    refine k_getP C0 M.1 hv fl_X10_28 dX10_wire_250 ?_
    refine lv_aload_n hx hb dX10_wire_253 rfl (lv_at hl 0 rfl) ?_
    obtain ⟨v254, hv, hF⟩ := ob hF
    refine k_getI C0 M.1 hv fl_X10_201 dX10_wire_254 ?_
    refine lv_iload_n hx hb dX10_wire_257 rfl (lv_at hl 1 rfl) ?_
    obtain ⟨S258, hv, hF⟩ := ob hF
    refine k_st C0 M hv dX10_wire_258 (fun H locs M => ?_)
    refine lv_aload_n hx hb dX10_wire_259 rfl (lv_at hl 0 rfl) ?_
    obtain ⟨v260, hv, hF⟩ := ob hF
    refine k_getP C0 M.1 hv fl_X10_31 dX10_wire_260 ?_
    refine lv_aload_n hx hb dX10_wire_263 rfl (lv_at hl 0 rfl) ?_
    obtain ⟨v264, hv, hF⟩ := ob hF
    refine k_getI C0 M.1 hv fl_X10_201 dX10_wire_264 ?_
    refine lv_iload_n hx hb dX10_wire_267 rfl (lv_at hl 2 rfl) ?_
    obtain ⟨S268, hv, hF⟩ := ob hF
    refine k_st C0 M hv dX10_wire_268 (fun H locs M => ?_)
    refine lv_aload_n hx hb dX10_wire_269 rfl (lv_at hl 0 rfl) ?_
    obtain ⟨v270, hv, hF⟩ := ob hF
    refine k_getP C0 M.1 hv fl_X10_34 dX10_wire_270 ?_
    refine lv_aload_n hx hb dX10_wire_273 rfl (lv_at hl 0 rfl) ?_
    obtain ⟨v274, hv, hF⟩ := ob hF
    refine k_getI C0 M.1 hv fl_X10_201 dX10_wire_274 ?_
    refine lv_iload_n hx hb dX10_wire_277 rfl (lv_at hl 3 rfl) ?_
    obtain ⟨S278, hv, hF⟩ := ob hF
    refine k_st C0 M hv dX10_wire_278 (fun H locs M => ?_)
    refine lv_aload_n hx hb dX10_wire_279 rfl (lv_at hl 0 rfl) ?_
    obtain ⟨v280, hv, hF⟩ := ob hF
    refine k_getP C0 M.1 hv fl_X10_40 dX10_wire_280 ?_
    refine lv_aload_n hx hb dX10_wire_283 rfl (lv_at hl 0 rfl) ?_
    obtain ⟨v284, hv, hF⟩ := ob hF
    refine k_getI C0 M.1 hv fl_X10_201 dX10_wire_284 ?_
    refine lv_aload_n hx hb dX10_wire_287 rfl (lv_at hl 0 rfl) ?_
    refine lv_aload_n hx hb dX10_wire_288 rfl (lv_at hl 0 rfl) ?_
    obtain ⟨v289, hv, hF⟩ := ob hF
    refine k_getI C0 M.1 hv fl_X10_201 dX10_wire_289 ?_
    refine lv_iconst (v := (1 : Int32)) hx hb dX10_wire_292 (by decide) ?_
    refine lv_iconst (v := (-1 : Int32)) hx hb dX10_wire_293 (by decide) ?_
    obtain ⟨_, hrec, hF⟩ := ob hF
    obtain ⟨v294, hcl, hF⟩ := ob hF
    refine go_SI (r_V (rest := [.int v284, .ref (ad v280)]) (As := [.int v289, .int (1 : Int32), .int (-1 : Int32)]) C0 cb_X10_231 M.1 hrec (tX10_readingAt l D cy ad A hcl) (pre_R C0 M.1) hl dX10_wire_294 rfl (Nat.le_of_ble_eq_true rfl) ⟨rfl, rfl⟩ ⟨Nat.le_of_ble_eq_true rfl, Nat.le_of_ble_eq_true rfl⟩ ⟨Nat.le_of_ble_eq_true rfl, Nat.le_of_ble_eq_true rfl⟩ rfl) ?_
    obtain ⟨S297, hv, hF⟩ := ob hF
    refine k_st C0 M hv dX10_wire_297 (fun H locs M => ?_)
    refine lv_aload_n hx hb dX10_wire_298 rfl (lv_at hl 0 rfl) ?_
    obtain ⟨v299, hv, hF⟩ := ob hF
    refine k_getP C0 M.1 hv fl_X10_43 dX10_wire_299 ?_
    refine lv_aload_n hx hb dX10_wire_302 rfl (lv_at hl 0 rfl) ?_
    obtain ⟨v303, hv, hF⟩ := ob hF
    refine k_getI C0 M.1 hv fl_X10_201 dX10_wire_303 ?_
    refine lv_aload_n hx hb dX10_wire_306 rfl (lv_at hl 0 rfl) ?_
    refine lv_aload_n hx hb dX10_wire_307 rfl (lv_at hl 0 rfl) ?_
    obtain ⟨v308, hv, hF⟩ := ob hF
    refine k_getI C0 M.1 hv fl_X10_201 dX10_wire_308 ?_
    refine lv_iconst (v := (1 : Int32)) hx hb dX10_wire_311 (by decide) ?_
    refine lv_iconst (v := (0 : Int32)) hx hb dX10_wire_312 (by decide) ?_
    obtain ⟨_, hrec, hF⟩ := ob hF
    obtain ⟨v313, hcl, hF⟩ := ob hF
    refine go_SI (r_V (rest := [.int v303, .ref (ad v299)]) (As := [.int v308, .int (1 : Int32), .int (0 : Int32)]) C0 cb_X10_231 M.1 hrec (tX10_readingAt l D cy ad A hcl) (pre_R C0 M.1) hl dX10_wire_313 rfl (Nat.le_of_ble_eq_true rfl) ⟨rfl, rfl⟩ ⟨Nat.le_of_ble_eq_true rfl, Nat.le_of_ble_eq_true rfl⟩ ⟨Nat.le_of_ble_eq_true rfl, Nat.le_of_ble_eq_true rfl⟩ rfl) ?_
    obtain ⟨S316, hv, hF⟩ := ob hF
    refine k_st C0 M hv dX10_wire_316 (fun H locs M => ?_)
    refine lv_aload_n hx hb dX10_wire_317 rfl (lv_at hl 0 rfl) ?_
    refine lv_dup hx hb dX10_wire_318 rfl ?_
    obtain ⟨v319, hv, hF⟩ := ob hF
    refine k_getI C0 M.1 hv fl_X10_201 dX10_wire_319 ?_
    refine lv_iconst (v := (1 : Int32)) hx hb dX10_wire_322 (by decide) ?_
    refine lv_iadd hx hb dX10_wire_323 ?_
    obtain ⟨S324, hv, hF⟩ := ob hF
    refine k_sI C0 M hv fl_X10_201 dX10_wire_324 (fun H locs M => ?_)
    refine lv_aload_n hx hb dX10_wire_327 rfl (lv_at hl 0 rfl) ?_
    refine lv_iconst (v := (0 : Int32)) hx hb dX10_wire_328 (by decide) ?_
    have hz : o_zb (0 : Int32) = some (0 : Int32) := rfl
    obtain ⟨S329, hv, hF⟩ := ob hF
    refine k_sZ C0 M hz hv fl_X10_174 dX10_wire_329 (fun H locs M => ?_)
    refine lv_aload_n hx hb dX10_wire_332 rfl (lv_at hl 0 rfl) ?_
    refine lv_aload_n hx hb dX10_wire_333 rfl (lv_at hl 0 rfl) ?_
    obtain ⟨v334, hv, hF⟩ := ob hF
    refine k_getI C0 M.1 hv fl_X10_201 dX10_wire_334 ?_
    refine lv_iconst (v := (1 : Int32)) hx hb dX10_wire_337 (by decide) ?_
    refine lv_isub hx hb dX10_wire_338 ?_
    obtain ⟨_, hrec, hF⟩ := ob hF
    obtain ⟨v339, S339, hcl, hF⟩ := ob2 hF
    refine go_MI (r_V (rest := []) (As := [.int (v334 - (1 : Int32))]) C0 cb_X10_215 M.1 hrec (tX10_refused l D cy ad A hcl) (pre_R C0 M.1) hl dX10_wire_339 rfl (Nat.le_of_ble_eq_true rfl) ⟨rfl, rfl⟩ ⟨Nat.le_of_ble_eq_true rfl, Nat.le_of_ble_eq_true rfl⟩ ⟨Nat.le_of_ble_eq_true rfl, Nat.le_of_ble_eq_true rfl⟩ rfl) M (fun H locs M => ?_)
    obtain ⟨rfl, rfl⟩ := Prod.mk.inj (Kr _ (Option.some.inj hF).symm)
    exact rt_MI C0 M hr dX10_wire_342
  · have hF := oi_f hc hF
    refine lv_aload_n hx hb dX10_wire_212 rfl (lv_at hl 0 rfl) ?_
    obtain ⟨v213, hv, hF⟩ := ob hF
    refine k_getP C0 M.1 hv fl_X10_37 dX10_wire_213 ?_
    refine lv_bipush (v := (15 : Int32)) hx hb dX10_wire_216 (by decide) ?_
    refine lv_aload_n hx hb dX10_wire_218 rfl (lv_at hl 0 rfl) ?_
    obtain ⟨v219, hv, hF⟩ := ob hF
    refine k_getI C0 M.1 hv fl_X10_201 dX10_wire_219 ?_
    refine lv_imul hx hb dX10_wire_222 ?_
    refine lv_iload hx hb dX10_wire_223 (lv_at hl 6 rfl) ?_
    refine lv_iadd hx hb dX10_wire_225 ?_
    refine lv_aload_n hx hb dX10_wire_226 rfl (lv_at hl 0 rfl) ?_
    obtain ⟨v227, hv, hF⟩ := ob hF
    refine k_getP C0 M.1 hv fl_X10_131 dX10_wire_227 ?_
    refine lv_bipush (v := (60 : Int32)) hx hb dX10_wire_230 (by decide) ?_
    refine lv_iload hx hb dX10_wire_232 (lv_at hl 4 rfl) ?_
    refine lv_imul hx hb dX10_wire_234 ?_
    refine lv_iload hx hb dX10_wire_235 (lv_at hl 5 rfl) ?_
    refine lv_iadd hx hb dX10_wire_237 ?_
    refine lv_iload hx hb dX10_wire_238 (lv_at hl 6 rfl) ?_
    refine lv_iadd hx hb dX10_wire_240 ?_
    obtain ⟨v241, hv, hF⟩ := ob hF
    refine k_ld C0 M.1 hv dX10_wire_241 ?_
    obtain ⟨S242, hv, hF⟩ := ob hF
    refine k_st C0 M hv dX10_wire_242 (fun H locs M => ?_)
    obtain ⟨v243, hv, hF⟩ := ob hF
    refine lv_iinc (v := v243) (lv' := [(7, .int v243), (0, .ref (ad x0)), (1, .int x1), (2, .int x2), (3, .int x3), (4, .int x4), (6, .int x6)]) hx hb dX10_wire_243 hl (k := 6) rfl (by rw [← vtI hv]; rfl) (by decide) rfl (fun ls hl => ?_)
    refine lv_goto (tgt := 205) hx hb dX10_wire_246 (by decide) ?_
    exact Kh1 _ _ _ _ _ _ _ _ (Option.some.inj hF).symm _ _ _ M (lv_sub hl [1, 2, 3, 4, 5, 6, 0] rfl)
set_option maxHeartbeats 4000000 in
set_option maxRecDepth 100000 in
theorem tX10_wire (l : Launch) (D : va_G) (cy : Nat → ClassId) (ad : Nat → Nat) (A : Nat → Prop) {S S' : MS} {a0 : Nat} {a1 : Int32} {a2 : Int32} {a3 : Int32} {a4 : Int32} {a5 : Int32} {a6 : Int32} {r : Int32} (h : fX10_wire S a0 a1 a2 a3 a4 a5 a6 = some (r, S')) : Met l yX10_wire [Cond.code yX10_wire cX10_wire 8 (some .int)] rmX10_wire (PcR D cy ad A S [.ref (ad a0), .int a1, .int a2, .int a3, .int a4, .int a5, .int a6]) (QcM D cy ad A (m_n S) S' (some (.int r))) 0 0 A := by
  refine met_M (by decide +kernel) cw_X10_wire (Nat.le_of_ble_eq_true rfl) ?_
  intro p e s m args below meth c ls C0 M hr hin hl
  have hl : lv_has ls 8 [(0, .ref (ad a0)), (1, .int a1), (2, .int a2), (3, .int a3), (4, .int a4), (5, .int a5), (6, .int a6)] := hl
  have key := lim_walk (step := sX10_wire) (fun (q : ((Nat × Int32 × Int32 × Int32 × Int32 × Int32 × Int32 × MS) ⊕ (Nat × Int32 × Int32 × Int32 × Int32 × Int32 × Int32 × MS))) (r9 : (Int32 × MS)) => ∀ (r : Int32) (S' : MS), r9 = (r, S') → ((∀ (y0 : Nat) (y1 : Int32) (y2 : Int32) (y3 : Int32) (y4 : Int32) (y5 : Int32) (y6 : Int32) (S2 : MS), q = (.inl (y0, y1, y2, y3, y4, y5, y6, S2)) → ∀ (H1 : Heap) (locs1 : List Loc) (ls1 : Array Slot), ST D cy ad A s.heap (ZN (m_n S) s.heap.size) S2 H1 locs1 → lv_has ls1 8 [(0, .ref (ad y0)), (1, .int y1), (2, .int y2), (3, .int y3), (4, .int y4), (6, .int y5), (7, .int y6)] → W p l e rmX10_wire s m args below meth c H1 locs1 0 0 (MQ below (QcM D cy ad A (m_n S) S' (some (.int r))) args s 0 0 A) (F0 m 137 ls1 [])) ∧ (∀ (y0 : Nat) (y1 : Int32) (y2 : Int32) (y3 : Int32) (y4 : Int32) (y5 : Int32) (y6 : Int32) (S2 : MS), q = (.inr (y0, y1, y2, y3, y4, y5, y6, S2)) → ∀ (H1 : Heap) (locs1 : List Loc) (ls1 : Array Slot), ST D cy ad A s.heap (ZN (m_n S) s.heap.size) S2 H1 locs1 → lv_has ls1 8 [(0, .ref (ad y0)), (1, .int y1), (2, .int y2), (3, .int y3), (4, .int y4), (6, .int y5), (7, .int y6)] → W p l e rmX10_wire s m args below meth c H1 locs1 0 0 (MQ below (QcM D cy ad A (m_n S) S' (some (.int r))) args s 0 0 A) (F0 m 205 ls1 [])))) ?_
  · unfold fX10_wire at h
    cases hs0 : bX10_wire_0 S a0 a1 a2 a3 a4 a5 a6 with
    | none => rw [hs0] at h; cases h
    | some out =>
      rw [hs0] at h
      refine wX10_wire_0 ad A C0 M hr hs0 hl (fun r9 hr9 => ?_) ?_ ?_
      · subst hr9; exact Option.some.inj h
      · intro y0 y1 y2 y3 y4 y5 y6 y7 hq; subst hq; exact (key _ _ h _ _ rfl).1 _ _ _ _ _ _ _ _ rfl
      · intro y0 y1 y2 y3 y4 y5 y6 y7 hq; subst hq; exact (key _ _ h _ _ rfl).2 _ _ _ _ _ _ _ _ rfl
  · intro q r9 out hst hre hin9
    intro r S' er; subst er
    refine ⟨?_, ?_⟩
    · intro y0 y1 y2 y3 y4 y5 y6 y7 hq H1 locs1 ls1 M hl
      subst hq
      exact wX10_wire_137 ad A C0 M hr hst hl hre (fun k0 k1 k2 k3 k4 k5 k6 k7 hk => (hin9 _ hk _ _ rfl).1 _ _ _ _ _ _ _ _ rfl) (fun k0 k1 k2 k3 k4 k5 k6 k7 hk => (hin9 _ hk _ _ rfl).2 _ _ _ _ _ _ _ _ rfl)
    · intro y0 y1 y2 y3 y4 y5 y6 y7 hq H1 locs1 ls1 M hl
      subst hq
      exact wX10_wire_205 ad A C0 M hr hst hl hre (fun k0 k1 k2 k3 k4 k5 k6 k7 hk => (hin9 _ hk _ _ rfl).1 _ _ _ _ _ _ _ _ rfl) (fun k0 k1 k2 k3 k4 k5 k6 k7 hk => (hin9 _ hk _ _ rfl).2 _ _ _ _ _ _ _ _ rfl)
set_option maxHeartbeats 4000000 in
set_option maxRecDepth 100000 in
theorem wX10_yOf_52 {p : Program} {l : Launch} {e : Env} {s : State} {m : MethodId} {args : Array Value} {below : List Frame} {meth : Method} {c : Code} {D : va_G} {cy : Nat → ClassId} (ad : Nat → Nat) (A : Nat → Prop) {S : MS} {r : Int32} {ls : Array Slot} (C0 : CX p s m args meth c RX10 cX10_yOf 4 D cy) (M : MW D cy ad A S s.heap) (hr : meth.sig.returnType = some .int) (hF : bX10_yOf_52 S = some r) (hl : lv_has ls 4 []) : W p l e rmX10_yOf s m args below meth c s.heap [] 0 0 (MQ below (QcS (some (.int r))) args s 0 0 (fun _ => False)) (F0 m 52 ls []) := by
  unfold bX10_yOf_52 at hF
  obtain ⟨hx, hb, -, hown, -, hts, -⟩ := id C0
  refine lv_iconst (v := (-1 : Int32)) hx hb dX10_yOf_52 (by decide) ?_
  obtain rfl := (Option.some.inj hF)
  exact rt_SI C0 hr dX10_yOf_53
set_option maxHeartbeats 4000000 in
set_option maxRecDepth 100000 in
theorem wX10_yOf_0 {p : Program} {l : Launch} {e : Env} {s : State} {m : MethodId} {args : Array Value} {below : List Frame} {meth : Method} {c : Code} {D : va_G} {cy : Nat → ClassId} (ad : Nat → Nat) (A : Nat → Prop) {S : MS} {r : Int32} {ls : Array Slot} {x0 : Nat} {x1 : Int32} {x2 : Int32} {x3 : Int32} (C0 : CX p s m args meth c RX10 cX10_yOf 4 D cy) (M : MW D cy ad A S s.heap) (hr : meth.sig.returnType = some .int) (hF : bX10_yOf_0 S x0 x1 x2 x3 = some r) (hl : lv_has ls 4 [(0, .ref (ad x0)), (1, .int x1), (2, .int x2), (3, .int x3)]) : W p l e rmX10_yOf s m args below meth c s.heap [] 0 0 (MQ below (QcS (some (.int r))) args s 0 0 (fun _ => False)) (F0 m 0 ls []) := by
  unfold bX10_yOf_0 at hF
  obtain ⟨hx, hb, -, hown, -, hts, -⟩ := id C0
  refine lv_iload_n hx hb dX10_yOf_0 rfl (lv_at hl 1 rfl) ?_
  refine lv_i2l (v := (x1.toInt64)) hx hb dX10_yOf_1 rfl ?_
  refine lv_lconst (v := (0 : Int64)) hx hb dX10_yOf_2 (by decide) ?_
  refine lv_lconst (v := (1 : Int64)) hx hb dX10_yOf_3 (by decide) ?_
  obtain ⟨v4, hcl, hF⟩ := ob hF
  refine go_SI (r_S (rest := []) (As := [.long (x1.toInt64), .long (0 : Int64), .long (1 : Int64)]) C0 cb_X10_156 (tX10_in l D cy ad hcl) (pre_S C0) hl dX10_yOf_4 rfl (Nat.le_of_ble_eq_true rfl) ⟨rfl, rfl⟩ ⟨Nat.le_of_ble_eq_true rfl, Nat.le_of_ble_eq_true rfl⟩ ⟨Nat.le_of_ble_eq_true rfl, Nat.le_of_ble_eq_true rfl⟩ rfl) ?_
  refine lv_if_ne (tgt := 13) hx hb dX10_yOf_7 (by decide) (fun hc => ?_) (fun hc => ?_)
  · have hF := oi_f hc hF
    refine lv_aload_n hx hb dX10_yOf_13 rfl (lv_at hl 0 rfl) ?_
    refine lv_iload_n hx hb dX10_yOf_14 rfl (lv_at hl 1 rfl) ?_
    refine lv_iload_n hx hb dX10_yOf_15 rfl (lv_at hl 2 rfl) ?_
    obtain ⟨_, hrec, hF⟩ := ob hF
    obtain ⟨v16, hcl, hF⟩ := ob hF
    refine go_SI (r_V (rest := []) (As := [.int x1, .int x2]) C0 cb_X10_358 M hrec (tX10_noFront l D cy ad A hcl) (pre_R C0 M) hl dX10_yOf_16 rfl (Nat.le_of_ble_eq_true rfl) ⟨rfl, rfl⟩ ⟨Nat.le_of_ble_eq_true rfl, Nat.le_of_ble_eq_true rfl⟩ ⟨Nat.le_of_ble_eq_true rfl, Nat.le_of_ble_eq_true rfl⟩ rfl) ?_
    refine lv_if_ne (tgt := 52) hx hb dX10_yOf_19 (by decide) (fun hc => ?_) (fun hc => ?_)
    · have hF := oi_f hc hF
      exact wX10_yOf_52 ad A C0 M hr hF (lv_sub hl [] rfl)
    · have hF := oi_t hc hF
      refine lv_iload_n hx hb dX10_yOf_22 rfl (lv_at hl 3 rfl) ?_
      refine lv_i2l (v := (x3.toInt64)) hx hb dX10_yOf_23 rfl ?_
      refine lv_aload_n hx hb dX10_yOf_24 rfl (lv_at hl 0 rfl) ?_
      obtain ⟨v25, hv, hF⟩ := ob hF
      refine k_getP C0 M hv fl_X10_74 dX10_yOf_25 ?_
      refine lv_iconst (v := (5 : Int32)) hx hb dX10_yOf_28 (by decide) ?_
      refine lv_iload_n hx hb dX10_yOf_29 rfl (lv_at hl 1 rfl) ?_
      refine lv_imul hx hb dX10_yOf_30 ?_
      refine lv_iload_n hx hb dX10_yOf_31 rfl (lv_at hl 2 rfl) ?_
      refine lv_iadd hx hb dX10_yOf_32 ?_
      obtain ⟨v33, hv, hF⟩ := ob hF
      refine k_ld C0 M hv dX10_yOf_33 ?_
      refine lv_i2l (v := (v33.toInt64)) hx hb dX10_yOf_34 rfl ?_
      refine lv_aload_n hx hb dX10_yOf_35 rfl (lv_at hl 0 rfl) ?_
      obtain ⟨v36, hv, hF⟩ := ob hF
      refine k_getP C0 M hv fl_X10_77 dX10_yOf_36 ?_
      refine lv_iconst (v := (5 : Int32)) hx hb dX10_yOf_39 (by decide) ?_
      refine lv_iload_n hx hb dX10_yOf_40 rfl (lv_at hl 1 rfl) ?_
      refine lv_imul hx hb dX10_yOf_41 ?_
      refine lv_iload_n hx hb dX10_yOf_42 rfl (lv_at hl 2 rfl) ?_
      refine lv_iadd hx hb dX10_yOf_43 ?_
      obtain ⟨v44, hv, hF⟩ := ob hF
      refine k_ld C0 M hv dX10_yOf_44 ?_
      refine lv_i2l (v := (v44.toInt64)) hx hb dX10_yOf_45 rfl ?_
      obtain ⟨v46, hcl, hF⟩ := ob hF
      refine go_SI (r_S (rest := []) (As := [.long (x3.toInt64), .long (v33.toInt64), .long (v44.toInt64)]) C0 cb_X10_156 (tX10_in l D cy ad hcl) (pre_S C0) hl dX10_yOf_46 rfl (Nat.le_of_ble_eq_true rfl) ⟨rfl, rfl⟩ ⟨Nat.le_of_ble_eq_true rfl, Nat.le_of_ble_eq_true rfl⟩ ⟨Nat.le_of_ble_eq_true rfl, Nat.le_of_ble_eq_true rfl⟩ rfl) ?_
      refine lv_if_ne (tgt := 54) hx hb dX10_yOf_49 (by decide) (fun hc => ?_) (fun hc => ?_)
      · have hF := oi_f hc hF
        refine lv_aload_n hx hb dX10_yOf_54 rfl (lv_at hl 0 rfl) ?_
        obtain ⟨v55, hv, hF⟩ := ob hF
        refine k_getP C0 M hv fl_X10_83 dX10_yOf_55 ?_
        refine lv_bipush (v := (12 : Int32)) hx hb dX10_yOf_58 (by decide) ?_
        refine lv_iconst (v := (5 : Int32)) hx hb dX10_yOf_60 (by decide) ?_
        refine lv_iload_n hx hb dX10_yOf_61 rfl (lv_at hl 1 rfl) ?_
        refine lv_imul hx hb dX10_yOf_62 ?_
        refine lv_iload_n hx hb dX10_yOf_63 rfl (lv_at hl 2 rfl) ?_
        refine lv_iadd hx hb dX10_yOf_64 ?_
        refine lv_imul hx hb dX10_yOf_65 ?_
        refine lv_iload_n hx hb dX10_yOf_66 rfl (lv_at hl 3 rfl) ?_
        refine lv_iadd hx hb dX10_yOf_67 ?_
        obtain ⟨v68, hv, hF⟩ := ob hF
        refine k_ld C0 M hv dX10_yOf_68 ?_
        obtain rfl := (Option.some.inj hF)
        exact rt_SI C0 hr dX10_yOf_69
      · have hF := oi_t hc hF
        exact wX10_yOf_52 ad A C0 M hr hF (lv_sub hl [] rfl)
  · have hF := oi_t hc hF
    refine lv_bipush (v := (-2 : Int32)) hx hb dX10_yOf_10 (by decide) ?_
    obtain rfl := (Option.some.inj hF)
    exact rt_SI C0 hr dX10_yOf_12
set_option maxHeartbeats 4000000 in
set_option maxRecDepth 100000 in
theorem tX10_yOf (l : Launch) (D : va_G) (cy : Nat → ClassId) (ad : Nat → Nat) (A : Nat → Prop) {S : MS} {a0 : Nat} {a1 : Int32} {a2 : Int32} {a3 : Int32} {r : Int32} (h : fX10_yOf S a0 a1 a2 a3 = some r) : Met l yX10_yOf [Cond.code yX10_yOf cX10_yOf 4 (some .int)] rmX10_yOf (PcR D cy ad A S [.ref (ad a0), .int a1, .int a2, .int a3]) (QcS (some (.int r))) 0 0 (fun _ => False) := by
  refine met_R (by decide +kernel) cw_X10_yOf (Nat.le_of_ble_eq_true rfl) ?_
  intro p e s m args below meth c ls C0 M hr hl
  have hl : lv_has ls 4 [(0, .ref (ad a0)), (1, .int a1), (2, .int a2), (3, .int a3)] := hl
  exact wX10_yOf_0 ad A C0 M hr h hl
