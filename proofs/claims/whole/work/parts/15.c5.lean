theorem cb_X9_294 : CBV RX9 294 yX0_carriedValue cX0_carriedValue 5 (some .int) 4 1 := ⟨⟨cw_X0_carriedValue, ini_ChartRoom_Chart, by decide, (uw_of 887 (by decide +kernel) rfl)⟩, (uw_of 888 (by decide +kernel) rfl), (uw_of 889 (by decide +kernel) rfl), by decide, TX0, 10, rfl⟩
theorem cw_X9_prognosis : Cond.code yX9_prognosis cX9_prognosis 5 (some .int) ∈ UW := (uw_of 886 (by decide +kernel) rfl)
theorem cw_X7_write : Cond.code yX7_write cX7_write 3 (none) ∈ UW := (uw_of 1011 (by decide +kernel) rfl)
theorem cb_X9_351 : CBV RX9 351 yX7_write cX7_write 3 (none) 2 8 := ⟨⟨cw_X7_write, ini_ChartRoom_Sheet, by decide, (uw_of 1008 (by decide +kernel) rfl)⟩, (uw_of 1009 (by decide +kernel) rfl), (uw_of 1010 (by decide +kernel) rfl), by decide, TX7, 3, rfl⟩
theorem cw_X9_put : Cond.code yX9_put cX9_put 5 (some .int) ∈ UW := (uw_of 1007 (by decide +kernel) rfl)
theorem fl_X9_229 : FL RX9 229 1 2 2 (.array .int) 2 := ⟨RX0, "ChartRoom$Chart", TX0, 10, tyX0, rfl, iu_1, tyX0_ok, nmX0, by decide, rfl, by decide, (uw_of 196 (by decide +kernel) rfl), Or.inl rfl, tyX0_ok 2 (by decide), (fun h => by cases h), (fun h => by cases h), rfl⟩
theorem cw_X9_quarrel : Cond.code yX9_quarrel cX9_quarrel 3 (some .int) ∈ UW := (uw_of 707 (by decide +kernel) rfl)
theorem cb_X9_197 : CBV RX9 197 yX8_readingAt cX8_readingAt 7 (some .int) 2 9 := ⟨⟨cw_X8_readingAt, ini_ChartRoom_Wire, by decide, (uw_of 676 (by decide +kernel) rfl)⟩, (uw_of 479 (by decide +kernel) rfl), (uw_of 480 (by decide +kernel) rfl), by decide, TX8, 6, rfl⟩
theorem cw_X9_reading : Cond.code yX9_reading cX9_reading 5 (some .int) ∈ UW := (uw_of 675 (by decide +kernel) rfl)
theorem cw_X9_readings : Cond.code yX9_readings cX9_readings 3 (some .int) ∈ UW := (uw_of 671 (by decide +kernel) rfl)
theorem cb_X7_22 : CBS RX7 22 yJ7_fill_53178 cJ7_fill_53178 4 (none) 2 := ⟨⟨cw_J7_fill_53178, ini_java_util_Arrays, by decide, (uw_of 994 (by decide +kernel) rfl)⟩, (uw_of 758 (by decide +kernel) rfl)⟩
theorem cw_X7_renew : Cond.code yX7_renew cX7_renew 3 (none) ∈ UW := (uw_of 993 (by decide +kernel) rfl)
theorem cb_X9_337 : CBV RX9 337 yX7_renew cX7_renew 3 (none) 2 8 := ⟨⟨cw_X7_renew, ini_ChartRoom_Sheet, by decide, (uw_of 990 (by decide +kernel) rfl)⟩, (uw_of 991 (by decide +kernel) rfl), (uw_of 992 (by decide +kernel) rfl), by decide, TX7, 3, rfl⟩
theorem cw_X9_sheet : Cond.code yX9_sheet cX9_sheet 4 (some .int) ∈ UW := (uw_of 989 (by decide +kernel) rfl)
theorem fl_X9_226 : FL RX9 226 1 0 0 .int 0 := ⟨RX0, "ChartRoom$Chart", TX0, 10, tyX0, rfl, iu_1, tyX0_ok, nmX0, by decide, rfl, by decide, (uw_of 193 (by decide +kernel) rfl), Or.inl rfl, tyX0_ok 0 (by decide), (fun _ => rfl), (fun h => by cases h), rfl⟩
theorem cw_X9_steep : Cond.code yX9_steep cX9_steep 3 (some .int) ∈ UW := (uw_of 703 (by decide +kernel) rfl)
theorem cw_X9_tellAsPost : Cond.code yX9_tellAsPost cX9_tellAsPost 2 (some .int) ∈ UW := (uw_of 1040 (by decide +kernel) rfl)
theorem cb_X9_365 : CBV RX9 365 yX9_tellAsPost cX9_tellAsPost 2 (some .int) 1 10 := ⟨⟨cw_X9_tellAsPost, ini_ChartRoom, by decide, (uw_of 1037 (by decide +kernel) rfl)⟩, (uw_of 1039 (by decide +kernel) rfl), (uw_of 37 (by decide +kernel) rfl), by decide, TX9, 13, rfl⟩
theorem fl_X9_385 : FL RX9 385 7 4 0 .int 2 := ⟨RX6, "ChartRoom$Post", TX6, 6, tyX6, rfl, iu_7, tyX6_ok, nmX6, by decide, rfl, by decide, (uw_of 360 (by decide +kernel) rfl), Or.inl rfl, tyX6_ok 4 (by decide), (fun h => by cases h), (fun h => by cases h), rfl⟩
theorem cw_X9_tellAsShip : Cond.code yX9_tellAsShip cX9_tellAsShip 2 (some .int) ∈ UW := (uw_of 1036 (by decide +kernel) rfl)
theorem cb_X9_362 : CBV RX9 362 yX9_tellAsShip cX9_tellAsShip 2 (some .int) 1 10 := ⟨⟨cw_X9_tellAsShip, ini_ChartRoom, by decide, (uw_of 1033 (by decide +kernel) rfl)⟩, (uw_of 1035 (by decide +kernel) rfl), (uw_of 36 (by decide +kernel) rfl), by decide, TX9, 13, rfl⟩
theorem cw_X9_tellAsBuoy : Cond.code yX9_tellAsBuoy cX9_tellAsBuoy 3 (some .int) ∈ UW := (uw_of 1028 (by decide +kernel) rfl)
theorem cb_X9_358 : CBV RX9 358 yX9_tellAsBuoy cX9_tellAsBuoy 3 (some .int) 1 10 := ⟨⟨cw_X9_tellAsBuoy, ini_ChartRoom, by decide, (uw_of 1025 (by decide +kernel) rfl)⟩, (uw_of 1027 (by decide +kernel) rfl), (uw_of 34 (by decide +kernel) rfl), by decide, TX9, 13, rfl⟩
theorem cw_X9_tell : Cond.code yX9_tell cX9_tell 3 (some .int) ∈ UW := (uw_of 1024 (by decide +kernel) rfl)
theorem fl_X9_185 : FL RX9 185 9 1 0 .int 2 := ⟨RX8, "ChartRoom$Wire", TX8, 6, tyX8, rfl, iu_9, tyX8_ok, nmX8, by decide, rfl, by decide, (uw_of 633 (by decide +kernel) rfl), Or.inl rfl, tyX8_ok 1 (by decide), (fun h => by cases h), (fun h => by cases h), rfl⟩
theorem fl_X9_188 : FL RX9 188 9 2 0 .int 2 := ⟨RX8, "ChartRoom$Wire", TX8, 6, tyX8, rfl, iu_9, tyX8_ok, nmX8, by decide, rfl, by decide, (uw_of 636 (by decide +kernel) rfl), Or.inl rfl, tyX8_ok 2 (by decide), (fun h => by cases h), (fun h => by cases h), rfl⟩
theorem cw_X9_told : Cond.code yX9_told cX9_told 4 (some .int) ∈ UW := (uw_of 659 (by decide +kernel) rfl)
theorem cw_X9_trace : Cond.code yX9_trace cX9_trace 1 (some .int) ∈ UW := (uw_of 1052 (by decide +kernel) rfl)
theorem cw_X9_value : Cond.code yX9_value cX9_value 3 (some .int) ∈ UW := (uw_of 715 (by decide +kernel) rfl)
theorem cw_X2_isInRegion : Cond.code yX2_isInRegion cX2_isInRegion 3 (some .boolean) ∈ UW := (uw_of 985 (by decide +kernel) rfl)
theorem cb_X2_56 : CBS RX2 56 yX2_isInRegion cX2_isInRegion 3 (some .boolean) 3 := ⟨⟨cw_X2_isInRegion, ini_ChartRoom_Forecast, by decide, (uw_of 983 (by decide +kernel) rfl)⟩, (uw_of 984 (by decide +kernel) rfl)⟩
theorem cw_X2_isTrue : Cond.code yX2_isTrue cX2_isTrue 7 (some .boolean) ∈ UW := (uw_of 982 (by decide +kernel) rfl)
theorem cb_X2_52 : CBV RX2 52 yX2_isTrue cX2_isTrue 7 (some .boolean) 2 3 := ⟨⟨cw_X2_isTrue, ini_ChartRoom_Forecast, by decide, (uw_of 979 (by decide +kernel) rfl)⟩, (uw_of 981 (by decide +kernel) rfl), (uw_of 33 (by decide +kernel) rfl), by decide, TX2, 6, rfl⟩
theorem cw_X2_trueClauses : Cond.code yX2_trueClauses cX2_trueClauses 4 (some .int) ∈ UW := (uw_of 978 (by decide +kernel) rfl)
theorem fl_X9_330 : FL RX9 330 3 0 0 .int 0 := ⟨RX2, "ChartRoom$Forecast", TX2, 6, tyX2, rfl, iu_3, tyX2_ok, nmX2, by decide, rfl, by decide, (uw_of 927 (by decide +kernel) rfl), Or.inl rfl, tyX2_ok 0 (by decide), (fun _ => rfl), (fun h => by cases h), rfl⟩
theorem cb_X9_333 : CBV RX9 333 yX2_trueClauses cX2_trueClauses 4 (some .int) 1 3 := ⟨⟨cw_X2_trueClauses, ini_ChartRoom_Forecast, by decide, (uw_of 975 (by decide +kernel) rfl)⟩, (uw_of 976 (by decide +kernel) rfl), (uw_of 977 (by decide +kernel) rfl), by decide, TX2, 6, rfl⟩
theorem cw_X9_verified : Cond.code yX9_verified cX9_verified 4 (some .int) ∈ UW := (uw_of 974 (by decide +kernel) rfl)
theorem cw_X9_view : Cond.code yX9_view cX9_view 3 (some .int) ∈ UW := (uw_of 680 (by decide +kernel) rfl)
theorem cw_X8_countRight : Cond.code yX8_countRight cX8_countRight 5 (some .int) ∈ UW := (uw_of 627 (by decide +kernel) rfl)
theorem fl_X8_9 : FL RX8 9 9 0 0 .int 1 := ⟨RX8, "ChartRoom$Wire", TX8, 6, tyX8, rfl, iu_9, tyX8_ok, nmX8, by decide, rfl, by decide, (uw_of 628 (by decide +kernel) rfl), Or.inl rfl, tyX8_ok 0 (by decide), (fun h => by cases h), (fun _ => ⟨rfl, rfl⟩), rfl⟩
theorem fl_X8_18 : FL RX8 18 9 1 0 .int 1 := ⟨RX8, "ChartRoom$Wire", TX8, 6, tyX8, rfl, iu_9, tyX8_ok, nmX8, by decide, rfl, by decide, (uw_of 631 (by decide +kernel) rfl), Or.inl rfl, tyX8_ok 1 (by decide), (fun h => by cases h), (fun _ => ⟨rfl, rfl⟩), rfl⟩
theorem fl_X8_21 : FL RX8 21 9 2 0 .int 1 := ⟨RX8, "ChartRoom$Wire", TX8, 6, tyX8, rfl, iu_9, tyX8_ok, nmX8, by decide, rfl, by decide, (uw_of 634 (by decide +kernel) rfl), Or.inl rfl, tyX8_ok 2 (by decide), (fun h => by cases h), (fun _ => ⟨rfl, rfl⟩), rfl⟩
theorem fl_X8_28 : FL RX8 28 9 5 2 (.array .int) 1 := ⟨RX8, "ChartRoom$Wire", TX8, 6, tyX8, rfl, iu_9, tyX8_ok, nmX8, by decide, rfl, by decide, (uw_of 640 (by decide +kernel) rfl), Or.inl rfl, tyX8_ok 5 (by decide), (fun h => by cases h), (fun _ => ⟨rfl, rfl⟩), rfl⟩
theorem cb_X8_31 : CBV RX8 31 yX8_countRight cX8_countRight 5 (some .int) 1 9 := ⟨⟨cw_X8_countRight, ini_ChartRoom_Wire, by decide, (uw_of 624 (by decide +kernel) rfl)⟩, (uw_of 626 (by decide +kernel) rfl), (uw_of 14 (by decide +kernel) rfl), by decide, TX8, 6, rfl⟩
theorem cw_X8_init : Cond.code yX8_init cX8_init 7 (none) ∈ UW := (uw_of 622 (by decide +kernel) rfl)
theorem nw_X9_168 : NWF RX9 168 9 6 := ⟨RX8, TX8, tyX8, rfl, iu_9, tyX8_ok, rfl, by decide, (uw_of 603 (by decide +kernel) rfl), (uw_of 485 (by decide +kernel) rfl), (uw_of 102 (by decide +kernel) rfl), by decide⟩
theorem cb_X9_170 : CBS RX9 170 yJ7_copyOfRange_feecc cJ7_copyOfRange_feecc 3 ((some (.array .int))) 3 := ⟨⟨cw_J7_copyOfRange_feecc, ini_java_util_Arrays, by decide, (uw_of 604 (by decide +kernel) rfl)⟩, (uw_of 605 (by decide +kernel) rfl)⟩
theorem cb_X9_176 : CBI RX9 176 yX8_init cX8_init 7 5 := ⟨⟨cw_X8_init, ini_ChartRoom_Wire, by decide, (uw_of 620 (by decide +kernel) rfl)⟩, (uw_of 621 (by decide +kernel) rfl), rfl⟩
theorem cw_X9_wire : Cond.code yX9_wire cX9_wire 10 (some .int) ∈ UW := (uw_of 582 (by decide +kernel) rfl)
theorem fl_X9_284 : FL RX9 284 4 4 2 (.array .int) 2 := ⟨RX3, "ChartRoom$Front", TX3, 5, tyX3, rfl, iu_4, tyX3_ok, nmX3, by decide, rfl, by decide, (uw_of 815 (by decide +kernel) rfl), Or.inl rfl, tyX3_ok 4 (by decide), (fun h => by cases h), (fun h => by cases h), rfl⟩
theorem cw_X9_yOf : Cond.code yX9_yOf cX9_yOf 5 (some .int) ∈ UW := (uw_of 870 (by decide +kernel) rfl)
abbrev rmX9_prognosis : Room := { frames := 6, cells := 0, slots := 0, locals := 141 }
abbrev rmX7_write : Room := { frames := 0, cells := 0, slots := 0, locals := 0 }
abbrev rmX9_put : Room := { frames := 2, cells := 0, slots := 0, locals := 47 }
abbrev rmX9_quarrel : Room := { frames := 6, cells := 0, slots := 0, locals := 141 }
abbrev rmX9_reading : Room := { frames := 3, cells := 0, slots := 0, locals := 64 }
abbrev rmX9_readings : Room := { frames := 3, cells := 0, slots := 0, locals := 64 }
abbrev rmX7_renew : Room := { frames := 1, cells := 0, slots := 0, locals := 23 }
abbrev rmX9_sheet : Room := { frames := 2, cells := 0, slots := 0, locals := 45 }
abbrev rmX9_steep : Room := { frames := 1, cells := 0, slots := 0, locals := 22 }
abbrev rmX9_tellAsPost : Room := { frames := 1, cells := 0, slots := 0, locals := 21 }
abbrev rmX9_tellAsShip : Room := { frames := 2, cells := 0, slots := 0, locals := 42 }
abbrev rmX9_tellAsBuoy : Room := { frames := 3, cells := 0, slots := 0, locals := 63 }
abbrev rmX9_tell : Room := { frames := 4, cells := 0, slots := 0, locals := 85 }
abbrev rmX9_told : Room := { frames := 3, cells := 0, slots := 0, locals := 64 }
abbrev rmX9_trace : Room := { frames := 0, cells := 0, slots := 0, locals := 0 }
abbrev rmX9_value : Room := { frames := 6, cells := 0, slots := 0, locals := 141 }
abbrev rmX2_isInRegion : Room := { frames := 1, cells := 0, slots := 0, locals := 22 }
abbrev rmX2_isTrue : Room := { frames := 2, cells := 0, slots := 0, locals := 44 }
abbrev rmX2_trueClauses : Room := { frames := 3, cells := 0, slots := 0, locals := 70 }
abbrev rmX9_verified : Room := { frames := 6, cells := 0, slots := 0, locals := 141 }
abbrev rmX9_view : Room := { frames := 6, cells := 0, slots := 0, locals := 133 }
abbrev rmX8_countRight : Room := { frames := 1, cells := 0, slots := 0, locals := 29 }
abbrev rmX8_init : Room := { frames := 2, cells := 1, slots := 3, locals := 53 }
abbrev rmX9_wire : Room := { frames := 8, cells := 4, slots := 64, locals := 228 }
abbrev rmX9_yOf : Room := { frames := 3, cells := 0, slots := 0, locals := 64 }
noncomputable def bX9_prognosis_22 (S : MS) : Option (Int32 × MS) :=
  some ((-2 : Int32), S)
noncomputable def bX9_prognosis_0 (S : MS) (x0 : Nat) (x1 : Int32) (x2 : Int32) (x3 : Int32) (x4 : Int32) : Option (Int32 × MS) :=
  (fX9_isWithin x1 (-11 : Int32) (11 : Int32)).bind fun v5 =>
  if v5 = 0 then
    bX9_prognosis_22 S
  else
    (fX9_isWithin x2 (-11 : Int32) (11 : Int32)).bind fun v16 =>
    if v16 = 0 then
      bX9_prognosis_22 S
    else
      (fX9_isPlace x3 x4).bind fun v28 =>
      if v28 = 0 then
        some ((-1 : Int32), S)
      else
        (o_is S x0 10).bind fun _ =>
        b2 (fX9_settledChart S x0) fun v37 S37 =>
        (o_is S37 v37 1).bind fun _ =>
        (fX0_carriedValue S37 v37 x1 x2 x3 x4).bind fun v45 =>
        some (v45, S37)
noncomputable def fX9_prognosis (S : MS) (a0 : Nat) (a1 : Int32) (a2 : Int32) (a3 : Int32) (a4 : Int32) : Option (Int32 × MS) := bX9_prognosis_0 S a0 a1 a2 a3 a4
noncomputable def bX7_write_61 (S : MS) : Option MS :=
  some S
noncomputable def bX7_write_0 (S : MS) (x0 : Nat) (x1 : Int32) (x2 : Int32) : Option MS :=
  (o_gI S x0 8 0).bind fun v1 =>
  if v1 = (0 : Int32) then
    (o_gP S x0 8 2).bind fun v33 =>
    (o_st S v33 12 x1 (x2.toInt8.toInt32)).bind fun S39 =>
    bX7_write_61 S39
  else
  if v1 = (1 : Int32) then
    (o_gP S x0 8 2).bind fun v44 =>
    (o_st S v44 12 x1 (x2.toInt16.toInt32)).bind fun S50 =>
    bX7_write_61 S50
  else
  (o_gP S x0 8 2).bind fun v55 =>
  (o_st S v55 12 x1 x2).bind fun S60 =>
  bX7_write_61 S60
noncomputable def fX7_write (S : MS) (a0 : Nat) (a1 : Int32) (a2 : Int32) : Option MS := bX7_write_0 S a0 a1 a2
noncomputable def bX9_put_0 (S : MS) (x0 : Nat) (x1 : Int32) (x2 : Int32) (x3 : Int32) : Option (Int32 × MS) :=
  (o_sI S x0 10 12 (0 : Int32)).bind fun S2 =>
  (fX9_isSheet x1).bind fun v6 =>
  if v6 = 0 then
    some ((-1 : Int32), S2)
  else
    (o_gP S2 x0 10 10).bind fun v15 =>
    (o_ldP S2 v15 14 x1).bind fun v19 =>
    (o_gP S2 x0 10 10).bind fun v21 =>
    (o_ldP S2 v21 14 x1).bind fun v25 =>
    (o_gI S2 v25 8 0).bind fun v26 =>
    (o_is S2 v19 8).bind fun _ =>
    (fX7_faultOfTaking S2 v19 v26 x2 (1 : Int64)).bind fun v31 =>
    if v31 = 0 then
      (o_gP S2 x0 10 10).bind fun v49 =>
      (o_ldP S2 v49 14 x1).bind fun v53 =>
      (o_is S2 v53 8).bind fun _ =>
      (fX7_write S2 v53 x2 x3).bind fun S56 =>
      some ((1 : Int32), S56)
    else
      (o_is S2 x0 10).bind fun _ =>
      b2 (fX9_comeTo S2 x0 v31) fun v44 S44 =>
      some (v44, S44)
noncomputable def fX9_put (S : MS) (a0 : Nat) (a1 : Int32) (a2 : Int32) (a3 : Int32) : Option (Int32 × MS) := bX9_put_0 S a0 a1 a2 a3
noncomputable def bX9_quarrel_16 (S : MS) : Option (Int32 × MS) :=
  some ((-1 : Int32), S)
noncomputable def bX9_quarrel_51 (S : MS) : Option (Int32 × MS) :=
  some ((-3 : Int32), S)
noncomputable def bX9_quarrel_75 (S : MS) (z0 : Int32) : Option (Int32 × MS) :=
  some (z0, S)
noncomputable def bX9_quarrel_0 (S : MS) (x0 : Nat) (x1 : Int32) (x2 : Int32) : Option (Int32 × MS) :=
  (o_is S x0 10).bind fun _ =>
  (fX9_isPost S x0 x1).bind fun v2 =>
  if v2 = 0 then
    bX9_quarrel_16 S
  else
    (o_is S x0 10).bind fun _ =>
    (fX9_isPost S x0 x2).bind fun v10 =>
    if v10 = 0 then
      bX9_quarrel_16 S
    else
      if x1 = x2 then
        bX9_quarrel_51 S
      else
        (o_gP S x0 10 0).bind fun v24 =>
        (o_gI S v24 2 7).bind fun v27 =>
        (fX9_isIn v27 x1).bind fun v31 =>
        if v31 = 0 then
          bX9_quarrel_51 S
        else
          (o_gP S x0 10 0).bind fun v38 =>
          (o_gI S v38 2 7).bind fun v41 =>
          (fX9_isIn v41 x2).bind fun v45 =>
          if v45 = 0 then
            bX9_quarrel_51 S
          else
            (o_is S x0 10).bind fun _ =>
            b2 (fX9_settledChart S x0) fun v55 S55 =>
            (o_gP S55 v55 1 2).bind fun v58 =>
            (o_ld S55 v58 12 x1).bind fun v62 =>
            (fX9_isIn v62 x2).bind fun v64 =>
            if v64 = 0 then
              bX9_quarrel_75 S55 (0 : Int32)
            else
              bX9_quarrel_75 S55 (1 : Int32)
noncomputable def fX9_quarrel (S : MS) (a0 : Nat) (a1 : Int32) (a2 : Int32) : Option (Int32 × MS) := bX9_quarrel_0 S a0 a1 a2
noncomputable def bX9_reading_12 (S : MS) : Option Int32 :=
  some (-1 : Int32)
noncomputable def bX9_reading_0 (S : MS) (x0 : Nat) (x1 : Int32) (x2 : Int32) (x3 : Int32) : Option Int32 :=
  (o_is S x0 10).bind fun _ =>
  (fX9_isWire S x0 x1).bind fun v2 =>
  if v2 = 0 then
    bX9_reading_12 S
  else
    if 0 ≤ x3 then
      (fX9_isBelow x2 (3 : Int32)).bind fun v16 =>
      if v16 = 0 then
        some (-2 : Int32)
      else
        (o_gP S x0 10 0).bind fun v26 =>
        (o_gP S v26 2 1).bind fun v29 =>
        (o_is S v29 0).bind fun _ =>
        (fJx4a65c_get_915e3 S v29 x1).bind fun v33 =>
        (o_is S v33 9).bind fun v36 =>
        (o_gP S v36 9 5).bind fun v44 =>
        (o_ld S v44 12 x2).bind fun v48 =>
        if x3 < v48 then
          (o_is S v36 9).bind fun _ =>
          (fX8_readingAt S v36 x2 x3).bind fun v58 =>
          some v58
        else
          some (-1 : Int32)
    else
      bX9_reading_12 S
noncomputable def fX9_reading (S : MS) (a0 : Nat) (a1 : Int32) (a2 : Int32) (a3 : Int32) : Option Int32 := bX9_reading_0 S a0 a1 a2 a3
noncomputable def bX9_readings_0 (S : MS) (x0 : Nat) (x1 : Int32) (x2 : Int32) : Option Int32 :=
  (o_is S x0 10).bind fun _ =>
  (fX9_isWire S x0 x1).bind fun v2 =>
  if v2 = 0 then
    some (-1 : Int32)
  else
    (fX9_isBelow x2 (3 : Int32)).bind fun v12 =>
    if v12 = 0 then
      some (-2 : Int32)
    else
      (o_gP S x0 10 0).bind fun v22 =>
      (o_gP S v22 2 1).bind fun v25 =>
      (o_is S v25 0).bind fun _ =>
      (fJx4a65c_get_915e3 S v25 x1).bind fun v29 =>
      (o_is S v29 9).bind fun v32 =>
      (o_gP S v32 9 5).bind fun v35 =>
      (o_ld S v35 12 x2).bind fun v39 =>
      some v39
noncomputable def fX9_readings (S : MS) (a0 : Nat) (a1 : Int32) (a2 : Int32) : Option Int32 := bX9_readings_0 S a0 a1 a2
noncomputable def bX7_renew_0 (S : MS) (x0 : Nat) (x1 : Int32) (x2 : Int32) : Option MS :=
  (o_sI S x0 8 0 x1).bind fun S2 =>
  (o_sI S2 x0 8 1 x2).bind fun S7 =>
  (o_gP S7 x0 8 2).bind fun v11 =>
  (fJ7_fill_53178 S7 v11 (0 : Int32)).bind fun S15 =>
  some S15
noncomputable def fX7_renew (S : MS) (a0 : Nat) (a1 : Int32) (a2 : Int32) : Option MS := bX7_renew_0 S a0 a1 a2
noncomputable def bX9_sheet_28 (S : MS) : Option (Int32 × MS) :=
  some ((-2 : Int32), S)
noncomputable def bX9_sheet_0 (S : MS) (x0 : Nat) (x1 : Int32) (x2 : Int32) (x3 : Int32) : Option (Int32 × MS) :=
  (o_sI S x0 10 12 (0 : Int32)).bind fun S2 =>
  (fX9_isSheet x1).bind fun v6 =>
  if v6 = 0 then
    some ((-1 : Int32), S2)
  else
    (fX9_isBelow x2 (3 : Int32)).bind fun v16 =>
    if v16 = 0 then
      bX9_sheet_28 S2
    else
      if x3 ≤ (60 : Int32) then
        if 0 ≤ x3 then
          (o_gP S2 x0 10 10).bind fun v42 =>
          (o_ldP S2 v42 14 x1).bind fun v46 =>
          (o_is S2 v46 8).bind fun _ =>
          (fX7_renew S2 v46 x2 x3).bind fun S49 =>
          some ((1 : Int32), S49)
        else
          (o_is S2 x0 10).bind fun _ =>
          b2 (fX9_comeTo S2 x0 (4 : Int32)) fun v37 S37 =>
          some (v37, S37)
      else
        bX9_sheet_28 S2
noncomputable def fX9_sheet (S : MS) (a0 : Nat) (a1 : Int32) (a2 : Int32) (a3 : Int32) : Option (Int32 × MS) := bX9_sheet_0 S a0 a1 a2 a3
noncomputable def bX9_steep_0 (S : MS) (x0 : Nat) (x1 : Int32) : Option (Int32 × MS) :=
  (fX9_isWithin x1 (1 : Int32) (500 : Int32)).bind fun v5 =>
  if v5 = 0 then
    some ((-2 : Int32), S)
  else
    (o_gP S x0 10 1).bind fun v15 =>
    (o_gI S v15 1 0).bind fun v18 =>
    (o_gP S x0 10 1).bind fun v23 =>
    (o_sI S v23 1 0 x1).bind fun S27 =>
    (o_sI S27 x0 10 2 (1 : Int32)).bind fun S32 =>
    some (v18, S32)
noncomputable def fX9_steep (S : MS) (a0 : Nat) (a1 : Int32) : Option (Int32 × MS) := bX9_steep_0 S a0 a1
noncomputable def bX9_tellAsPost_0 (S : MS) (x0 : Nat) (x1 : Nat) : Option (Int32 × MS) :=
  (o_is S x0 10).bind fun _ =>
  (fX9_leaveInTrace S x0 (1 : Int32)).bind fun S2 =>
  (o_gI S2 x1 7 3).bind fun v6 =>
  some (v6, S2)
noncomputable def fX9_tellAsPost (S : MS) (a0 : Nat) (a1 : Nat) : Option (Int32 × MS) := bX9_tellAsPost_0 S a0 a1
noncomputable def bX9_tellAsShip_0 (S : MS) (x0 : Nat) (x1 : Nat) : Option (Int32 × MS) :=
  (o_is S x0 10).bind fun _ =>
  (fX9_leaveInTrace S x0 (2 : Int32)).bind fun S2 =>
  (o_is S2 x0 10).bind fun _ =>
  b2 (fX9_tellAsPost S2 x0 x1) fun v7 S7 =>
  (o_gI S7 x1 7 4).bind fun v11 =>
  some ((v7 + v11), S7)
noncomputable def fX9_tellAsShip (S : MS) (a0 : Nat) (a1 : Nat) : Option (Int32 × MS) := bX9_tellAsShip_0 S a0 a1
noncomputable def bX9_tellAsBuoy_0 (S : MS) (x0 : Nat) (x1 : Nat) : Option (Int32 × MS) :=
  (o_is S x0 10).bind fun _ =>
  (fX9_leaveInTrace S x0 (3 : Int32)).bind fun S2 =>
  (o_is S2 x0 10).bind fun _ =>
  b2 (fX9_tellAsShip S2 x0 x1) fun v7 S7 =>
  (o_is S7 x0 10).bind fun _ =>
  b2 (fX9_tellAsPost S7 x0 x1) fun v14 S14 =>
  some ((v7 + v14), S14)
noncomputable def fX9_tellAsBuoy (S : MS) (a0 : Nat) (a1 : Nat) : Option (Int32 × MS) := bX9_tellAsBuoy_0 S a0 a1
noncomputable def bX9_tell_0 (S : MS) (x0 : Nat) (x1 : Int32) : Option (Int32 × MS) :=
  (o_is S x0 10).bind fun _ =>
  (fX9_isPost S x0 x1).bind fun v2 =>
  if v2 = 0 then
    some ((-1 : Int32), S)
  else
    (o_gP S x0 10 0).bind fun v11 =>
    (o_gP S v11 2 0).bind fun v14 =>
    (o_is S v14 0).bind fun _ =>
    (fJx4a65c_get_915e3 S v14 x1).bind fun v18 =>
    (o_is S v18 7).bind fun v21 =>
    (o_gI S v21 7 0).bind fun v26 =>
    if v26 = (1 : Int32) then
      (o_is S x0 10).bind fun _ =>
      b2 (fX9_tellAsShip S x0 v21) fun v64 S64 =>
      some (v64, S64)
    else
    if v26 = (2 : Int32) then
      (o_is S x0 10).bind fun _ =>
      b2 (fX9_tellAsBuoy S x0 v21) fun v58 S58 =>
      some (v58, S58)
    else
    (o_is S x0 10).bind fun _ =>
    b2 (fX9_tellAsPost S x0 v21) fun v70 S70 =>
    some (v70, S70)
noncomputable def fX9_tell (S : MS) (a0 : Nat) (a1 : Int32) : Option (Int32 × MS) := bX9_tell_0 S a0 a1
noncomputable def bX9_told_92 (S : MS) (z0 : Int32) : Option Int32 :=
  some z0
noncomputable def bX9_told_0 (S : MS) (x0 : Nat) (x1 : Int32) (x2 : Int32) : Option Int32 :=
  (o_is S x0 10).bind fun _ =>
  (fX9_isWire S x0 x1).bind fun v2 =>
  if v2 = 0 then
    some (-1 : Int32)
  else
    (o_gP S x0 10 0).bind fun v11 =>
    (o_gP S v11 2 1).bind fun v14 =>
    (o_is S v14 0).bind fun _ =>
    (fJx4a65c_get_915e3 S v14 x1).bind fun v18 =>
    (o_is S v18 9).bind fun v21 =>
    if x2 = (0 : Int32) then
      (o_gI S v21 9 0).bind fun v57 =>
      some v57
    else
    if x2 = (1 : Int32) then
      (o_gI S v21 9 1).bind fun v62 =>
      some v62
    else
    if x2 = (2 : Int32) then
      (o_gI S v21 9 2).bind fun v67 =>
      some v67
    else
    if x2 = (3 : Int32) then
      (o_gP S x0 10 0).bind fun v72 =>
      (o_gP S v72 2 5).bind fun v75 =>
      (o_gI S v21 9 0).bind fun v79 =>
      (o_ld S v75 12 v79).bind fun v82 =>
      if v82 = x1 then
        bX9_told_92 S (1 : Int32)
      else
        bX9_told_92 S (0 : Int32)
    else
    some (-2 : Int32)
noncomputable def fX9_told (S : MS) (a0 : Nat) (a1 : Int32) (a2 : Int32) : Option Int32 := bX9_told_0 S a0 a1 a2
noncomputable def bX9_trace_0 (S : MS) (x0 : Nat) : Option Int32 :=
  (o_gI S x0 10 11).bind fun v1 =>
  some v1
noncomputable def fX9_trace (S : MS) (a0 : Nat) : Option Int32 := bX9_trace_0 S a0
noncomputable def bX9_value_0 (S : MS) (x0 : Nat) (x1 : Int32) (x2 : Int32) : Option (Int32 × MS) :=
  (fX9_isPlace x1 x2).bind fun v2 =>
  if v2 = 0 then
    some ((-1 : Int32), S)
  else
    (o_is S x0 10).bind fun _ =>
    b2 (fX9_settledChart S x0) fun v11 S11 =>
    (o_gP S11 v11 1 4).bind fun v14 =>
    (o_ld S11 v14 12 (((12 : Int32) * x2) + x1)).bind fun v23 =>
    some (v23, S11)
noncomputable def fX9_value (S : MS) (a0 : Nat) (a1 : Int32) (a2 : Int32) : Option (Int32 × MS) := bX9_value_0 S a0 a1 a2
noncomputable def bX2_isInRegion_54 (z0 : Int32) : Option Int32 :=
  (o_zb z0).bind fun z54 =>
  some z54
noncomputable def bX2_isInRegion_66 (z0 : Int32) : Option Int32 :=
  (o_zb z0).bind fun z66 =>
  some z66
noncomputable def bX2_isInRegion_77 (z0 : Int32) : Option Int32 :=
  (o_zb z0).bind fun z77 =>
  some z77
noncomputable def bX2_isInRegion_89 (z0 : Int32) : Option Int32 :=
  (o_zb z0).bind fun z89 =>
  some z89
noncomputable def bX2_isInRegion_115 (z0 : Int32) : Option Int32 :=
  (o_zb z0).bind fun z115 =>
  some z115
noncomputable def bX2_isInRegion_114 : Option Int32 :=
  bX2_isInRegion_115 (0 : Int32)
noncomputable def bX2_isInRegion_0 (x0 : Int32) (x1 : Int32) (x2 : Int32) : Option Int32 :=
  if x0 = (101 : Int32) then
    if x1 ≤ (7 : Int32) then
      bX2_isInRegion_89 (0 : Int32)
    else
      bX2_isInRegion_89 (1 : Int32)
  else
  if x0 = (110 : Int32) then
    if (4 : Int32) ≤ x2 then
      bX2_isInRegion_54 (0 : Int32)
    else
      bX2_isInRegion_54 (1 : Int32)
  else
  if x0 = (115 : Int32) then
    if x2 ≤ (7 : Int32) then
      bX2_isInRegion_66 (0 : Int32)
    else
      bX2_isInRegion_66 (1 : Int32)
  else
  if x0 = (119 : Int32) then
    if (4 : Int32) ≤ x1 then
      bX2_isInRegion_77 (0 : Int32)
    else
      bX2_isInRegion_77 (1 : Int32)
  else
  (fX9_isWithin x1 (4 : Int32) (7 : Int32)).bind fun v94 =>
  if v94 = 0 then
    bX2_isInRegion_114
  else
    (fX9_isWithin x2 (4 : Int32) (7 : Int32)).bind fun v104 =>
    if v104 = 0 then
      bX2_isInRegion_114
    else
      bX2_isInRegion_115 (1 : Int32)
noncomputable def fX2_isInRegion (a0 : Int32) (a1 : Int32) (a2 : Int32) : Option Int32 := bX2_isInRegion_0 a0 a1 a2
noncomputable def bX2_isTrue_0 (S : MS) (x0 : Nat) (x1 : Int32) (x2 : Nat) : Option ((Nat × Int32 × Nat × Int32 × Int32) ⊕ Int32) :=
  some (.inl (x0, x1, x2, (0 : Int32), (0 : Int32)))
noncomputable def bX2_isTrue_105 (S : MS) (x0 : Nat) (x1 : Int32) (x2 : Nat) (x3 : Int32) (x4 : Int32) : Option ((Nat × Int32 × Nat × Int32 × Int32) ⊕ Int32) :=
  (some (x4 + 1)).bind fun v105 =>
  some (.inl (x0, x1, x2, x3, v105))
noncomputable def bX2_isTrue_96 (S : MS) (x0 : Nat) (x1 : Int32) (x2 : Nat) (x3 : Int32) (x4 : Int32) (z0 : Int32) : Option ((Nat × Int32 × Nat × Int32 × Int32) ⊕ Int32) :=
  if z0 = 0 then
    some (.inr (0 : Int32))
  else
    bX2_isTrue_105 S x0 x1 x2 x3 x4
noncomputable def bX2_isTrue_5 (S : MS) (x0 : Nat) (x1 : Int32) (x2 : Nat) (x3 : Int32) (x4 : Int32) : Option ((Nat × Int32 × Nat × Int32 × Int32) ⊕ Int32) :=
  if (144 : Int32) ≤ x4 then
    (o_zb x3).bind fun z112 =>
    some (.inr z112)
  else
    (o_ld S x2 12 x4).bind fun v16 =>
    if v16 = (-9 : Int32) then
      bX2_isTrue_105 S x0 x1 x2 x3 x4
    else
      (o_gP S x0 3 1).bind fun v27 =>
      (o_ld S v27 12 x1).bind fun v31 =>
      (fX2_isInRegion v31 (x4 - x4 / (12 : Int32) * (12 : Int32)) (x4 / (12 : Int32))).bind fun v42 =>
      if v42 = 0 then
        bX2_isTrue_105 S x0 x1 x2 x3 x4
      else
        (o_gP S x0 3 2).bind fun v51 =>
        (o_ld S v51 12 x1).bind fun v55 =>
        if v55 = (60 : Int32) then
          (o_gP S x0 3 3).bind fun v64 =>
          (o_ld S v64 12 x1).bind fun v68 =>
          if v68 ≤ v16 then
            bX2_isTrue_96 S x0 x1 x2 (1 : Int32) x4 (0 : Int32)
          else
            bX2_isTrue_96 S x0 x1 x2 (1 : Int32) x4 (1 : Int32)
        else
          (o_gP S x0 3 3).bind fun v83 =>
          (o_ld S v83 12 x1).bind fun v87 =>
          if v16 ≤ v87 then
            bX2_isTrue_96 S x0 x1 x2 (1 : Int32) x4 (0 : Int32)
          else
            bX2_isTrue_96 S x0 x1 x2 (1 : Int32) x4 (1 : Int32)
noncomputable def sX2_isTrue (S : MS) : (Nat × Int32 × Nat × Int32 × Int32) → Option ((Nat × Int32 × Nat × Int32 × Int32) ⊕ Int32) := (fun t => bX2_isTrue_5 S t.1 t.2.1 t.2.2.1 t.2.2.2.1 t.2.2.2.2)
noncomputable def hX2_isTrue_5 (S : MS) (x0 : Nat) (x1 : Int32) (x2 : Nat) (x3 : Int32) (x4 : Int32) : Option Int32 := lim (sX2_isTrue S) (x0, x1, x2, x3, x4)
theorem qX2_isTrue_5 (S : MS) (x0 : Nat) (x1 : Int32) (x2 : Nat) (x3 : Int32) (x4 : Int32) : hX2_isTrue_5 S x0 x1 x2 x3 x4 = fin (sX2_isTrue S) (bX2_isTrue_5 S x0 x1 x2 x3 x4) := lim_eq _ _
noncomputable def fX2_isTrue (S : MS) (a0 : Nat) (a1 : Int32) (a2 : Nat) : Option Int32 := fin (sX2_isTrue S) (bX2_isTrue_0 S a0 a1 a2)
noncomputable def bX2_trueClauses_0 (S : MS) (x0 : Nat) (x1 : Nat) : Option ((Nat × Nat × Int32 × Int32) ⊕ Int32) :=
  some (.inl (x0, x1, (0 : Int32), (0 : Int32)))
noncomputable def bX2_trueClauses_27 (S : MS) (x0 : Nat) (x1 : Nat) (x2 : Int32) (x3 : Int32) : Option ((Nat × Nat × Int32 × Int32) ⊕ Int32) :=
  (some (x3 + 1)).bind fun v27 =>
  some (.inl (x0, x1, x2, v27))
noncomputable def bX2_trueClauses_4 (S : MS) (x0 : Nat) (x1 : Nat) (x2 : Int32) (x3 : Int32) : Option ((Nat × Nat × Int32 × Int32) ⊕ Int32) :=
  (o_gI S x0 3 0).bind fun v6 =>
  if v6 ≤ x3 then
    some (.inr x2)
  else
    (o_is S x0 3).bind fun _ =>
    (fX2_isTrue S x0 x3 x1).bind fun v15 =>
    if v15 = 0 then
      bX2_trueClauses_27 S x0 x1 x2 x3
    else
      (some ((x2 ||| ((1 : Int32) <<< (x3 &&& 31))))).bind fun v26 =>
      bX2_trueClauses_27 S x0 x1 v26 x3
noncomputable def sX2_trueClauses (S : MS) : (Nat × Nat × Int32 × Int32) → Option ((Nat × Nat × Int32 × Int32) ⊕ Int32) := (fun t => bX2_trueClauses_4 S t.1 t.2.1 t.2.2.1 t.2.2.2)
noncomputable def hX2_trueClauses_4 (S : MS) (x0 : Nat) (x1 : Nat) (x2 : Int32) (x3 : Int32) : Option Int32 := lim (sX2_trueClauses S) (x0, x1, x2, x3)
theorem qX2_trueClauses_4 (S : MS) (x0 : Nat) (x1 : Nat) (x2 : Int32) (x3 : Int32) : hX2_trueClauses_4 S x0 x1 x2 x3 = fin (sX2_trueClauses S) (bX2_trueClauses_4 S x0 x1 x2 x3) := lim_eq _ _
noncomputable def fX2_trueClauses (S : MS) (a0 : Nat) (a1 : Nat) : Option Int32 := fin (sX2_trueClauses S) (bX2_trueClauses_0 S a0 a1)
noncomputable def bX9_verified_0 (S : MS) (x0 : Nat) (x1 : Int32) (x2 : Int32) : Option (Int32 × MS) :=
  (o_gP S x0 10 9).bind fun v2 =>
  (o_is S v2 0).bind fun _ =>
  (fJx4a65c_size_8abf5 S v2).bind fun v5 =>
  (fX9_isBelow x1 v5).bind fun v8 =>
  if v8 = 0 then
    some ((-1 : Int32), S)
  else
    (o_gP S x0 10 9).bind fun v17 =>
    (o_is S v17 0).bind fun _ =>
    (fJx4a65c_get_915e3 S v17 x1).bind fun v21 =>
    (o_is S v21 3).bind fun v24 =>
    if x2 = (0 : Int32) then
      (o_gI S v24 3 0).bind fun v57 =>
      some (v57, S)
    else
    if x2 = (1 : Int32) then
      (o_is S x0 10).bind fun _ =>
      b2 (fX9_settledChart S x0) fun v63 S63 =>
      (o_gP S63 v63 1 4).bind fun v66 =>
      (o_is S63 v24 3).bind fun _ =>
      (fX2_trueClauses S63 v24 v66).bind fun v69 =>
      (fJ6_bitCount_0f7a4 v69).bind fun v72 =>
      some (v72, S63)
    else
    if x2 = (2 : Int32) then
      (o_is S x0 10).bind fun _ =>
      b2 (fX9_settledChart S x0) fun v78 S78 =>
      (o_gP S78 v78 1 4).bind fun v81 =>
      (o_is S78 v24 3).bind fun _ =>
      (fX2_trueClauses S78 v24 v81).bind fun v84 =>
      some (v84, S78)
    else
    some ((-2 : Int32), S)
noncomputable def fX9_verified (S : MS) (a0 : Nat) (a1 : Int32) (a2 : Int32) : Option (Int32 × MS) := bX9_verified_0 S a0 a1 a2
noncomputable def bX9_view_20 (S : MS) : Option (Int32 × MS) :=
  some ((-2 : Int32), S)
noncomputable def bX9_view_0 (S : MS) (x0 : Nat) (x1 : Int32) (x2 : Int32) : Option (Int32 × MS) :=
  (fX9_isWithin x1 (0 : Int32) (99 : Int32)).bind fun v4 =>
  if v4 = 0 then
    bX9_view_20 S
  else
    (fX9_isWithin x2 (0 : Int32) (99 : Int32)).bind fun v14 =>
    if v14 = 0 then
      bX9_view_20 S
    else
      (o_gP S x0 10 0).bind fun v24 =>
      (o_sI S v24 2 2 x1).bind fun S28 =>
      (o_gP S28 x0 10 0).bind fun v32 =>
      (o_sI S28 v32 2 3 x2).bind fun S36 =>
      (o_is S36 x0 10).bind fun _ =>
      (fX9_lookAgain S36 x0).bind fun S40 =>
      (o_gP S40 x0 10 0).bind fun v44 =>
      (o_gI S40 v44 2 7).bind fun v47 =>
      (fJ6_bitCount_0f7a4 v47).bind fun v50 =>
      some (v50, S40)
noncomputable def fX9_view (S : MS) (a0 : Nat) (a1 : Int32) (a2 : Int32) : Option (Int32 × MS) := bX9_view_0 S a0 a1 a2
noncomputable def bX8_countRight_0 (S : MS) (x0 : Nat) (x1 : Int32) : Option ((Nat × Int32 × Int32 × Int32 × Int32) ⊕ Int32) :=
  (o_is S x0 9).bind fun _ =>
  (fX8_countFillings S x0 x1).bind fun v4 =>
  some (.inl (x0, x1, (0 : Int32), v4, (0 : Int32)))
noncomputable def bX8_countRight_32 (S : MS) (x0 : Nat) (x1 : Int32) (x2 : Int32) (x3 : Int32) (x4 : Int32) : Option ((Nat × Int32 × Int32 × Int32 × Int32) ⊕ Int32) :=
  (some (x4 + 1)).bind fun v32 =>
  some (.inl (x0, x1, x2, x3, v32))
noncomputable def bX8_countRight_11 (S : MS) (x0 : Nat) (x1 : Int32) (x2 : Int32) (x3 : Int32) (x4 : Int32) : Option ((Nat × Int32 × Int32 × Int32 × Int32) ⊕ Int32) :=
  if x3 ≤ x4 then
    some (.inr x2)
  else
    (o_is S x0 9).bind fun _ =>
    (fX8_filled S x0 x1 x4).bind fun v21 =>
    if v21 = (-9 : Int32) then
      bX8_countRight_32 S x0 x1 x2 x3 x4
    else
      (some (x2 + 1)).bind fun v29 =>
      bX8_countRight_32 S x0 x1 v29 x3 x4
noncomputable def sX8_countRight (S : MS) : (Nat × Int32 × Int32 × Int32 × Int32) → Option ((Nat × Int32 × Int32 × Int32 × Int32) ⊕ Int32) := (fun t => bX8_countRight_11 S t.1 t.2.1 t.2.2.1 t.2.2.2.1 t.2.2.2.2)
noncomputable def hX8_countRight_11 (S : MS) (x0 : Nat) (x1 : Int32) (x2 : Int32) (x3 : Int32) (x4 : Int32) : Option Int32 := lim (sX8_countRight S) (x0, x1, x2, x3, x4)
theorem qX8_countRight_11 (S : MS) (x0 : Nat) (x1 : Int32) (x2 : Int32) (x3 : Int32) (x4 : Int32) : hX8_countRight_11 S x0 x1 x2 x3 x4 = fin (sX8_countRight S) (bX8_countRight_11 S x0 x1 x2 x3 x4) := lim_eq _ _
noncomputable def fX8_countRight (S : MS) (a0 : Nat) (a1 : Int32) : Option Int32 := fin (sX8_countRight S) (bX8_countRight_0 S a0 a1)
noncomputable def bX8_init_0 (S : MS) (x0 : Nat) (x1 : Int32) (x2 : Int32) (x3 : Int32) (x4 : Int32) (x5 : Nat) : Option ((Nat × Int32 × MS) ⊕ MS) :=
  (o_sI S x0 9 0 x1).bind fun S6 =>
  (o_sI S6 x0 9 3 x2).bind fun S11 =>
  (o_sI S11 x0 9 1 x3).bind fun S16 =>
  (o_sI S16 x0 9 2 x4).bind fun S22 =>
  (o_sP S22 x0 9 4 x5).bind fun S28 =>
  (o_le 3 (3 : Int32)).bind fun n33 =>
  (some (m_n S28 + 1)).bind fun o33 =>
  (some (m_new S28 12 n33)).bind fun S33 =>
  (o_sP S33 x0 9 5 o33).bind fun S35 =>
  some (.inl (x0, (0 : Int32), S35))
noncomputable def bX8_init_41 (S : MS) (x0 : Nat) (x6 : Int32) : Option ((Nat × Int32 × MS) ⊕ MS) :=
  if (3 : Int32) ≤ x6 then
    some (.inr S)
  else
    (o_gP S x0 9 5).bind fun v48 =>
    (o_is S x0 9).bind fun _ =>
    (fX8_countRight S x0 x6).bind fun v56 =>
    (o_st S v48 12 x6 v56).bind fun S59 =>
    (some (x6 + 1)).bind fun v60 =>
    some (.inl (x0, v60, S59))
noncomputable def sX8_init : (Nat × Int32 × MS) → Option ((Nat × Int32 × MS) ⊕ MS) := (fun t => bX8_init_41 t.2.2 t.1 t.2.1)
noncomputable def hX8_init_41 (S : MS) (x0 : Nat) (x6 : Int32) : Option MS := lim (sX8_init) (x0, x6, S)
theorem qX8_init_41 (S : MS) (x0 : Nat) (x6 : Int32) : hX8_init_41 S x0 x6 = fin (sX8_init) (bX8_init_41 S x0 x6) := lim_eq _ _
noncomputable def fX8_init (S : MS) (a0 : Nat) (a1 : Int32) (a2 : Int32) (a3 : Int32) (a4 : Int32) (a5 : Nat) : Option MS := fin (sX8_init) (bX8_init_0 S a0 a1 a2 a3 a4 a5)
noncomputable def bX9_wire_21 (S : MS) : Option ((Nat × Int32 × Int32 × Int32 × Int32 × Nat × Int32 × MS) ⊕ (Int32 × MS)) :=
  some (.inr ((-1 : Int32), S))
noncomputable def bX9_wire_52 (S : MS) : Option ((Nat × Int32 × Int32 × Int32 × Int32 × Nat × Int32 × MS) ⊕ (Int32 × MS)) :=
  some (.inr ((-2 : Int32), S))
noncomputable def bX9_wire_0 (S : MS) (x0 : Nat) (x1 : Int32) (x2 : Int32) (x3 : Int32) (x4 : Int32) (x5 : Int32) (x6 : Int32) : Option ((Nat × Int32 × Int32 × Int32 × Int32 × Nat × Int32 × MS) ⊕ (Int32 × MS)) :=
  (o_sI S x0 10 12 (0 : Int32)).bind fun S2 =>
  (o_is S2 x0 10).bind fun _ =>
  (fX9_isPost S2 x0 x1).bind fun v7 =>
  if v7 = 0 then
    bX9_wire_21 S2
  else
    (fX9_isSheet x4).bind fun v15 =>
    if v15 = 0 then
      bX9_wire_21 S2
    else
      (fX9_isBelow x5 (3 : Int32)).bind fun v26 =>
      if v26 = 0 then
        bX9_wire_52 S2
      else
        (fX9_isWithin x2 (0 : Int32) (99 : Int32)).bind fun v36 =>
        if v36 = 0 then
          bX9_wire_52 S2
        else
          (fX9_isWithin x3 (0 : Int32) (99 : Int32)).bind fun v46 =>
          if v46 = 0 then
            bX9_wire_52 S2
          else
            (o_gP S2 x0 10 10).bind fun v56 =>
            (o_ldP S2 v56 14 x4).bind fun v61 =>
            (o_is S2 v61 8).bind fun _ =>
            (fX7_faultOfTaking S2 v61 x5 x6 (15 : Int64)).bind fun v69 =>
            if v69 = 0 then
              (o_gP S2 x0 10 10).bind fun v87 =>
              (o_ldP S2 v87 14 x4).bind fun v92 =>
              (o_gP S2 v92 8 2).bind fun v93 =>
              some (.inl (x0, x1, x2, x3, x6, v93, x6, S2))
            else
              (o_is S2 x0 10).bind fun _ =>
              b2 (fX9_comeTo S2 x0 v69) fun v82 S82 =>
              some (.inr (v82, S82))
noncomputable def bX9_wire_102 (S : MS) (x0 : Nat) (x1 : Int32) (x2 : Int32) (x3 : Int32) (x6 : Int32) (x8 : Nat) (x9 : Int32) : Option ((Nat × Int32 × Int32 × Int32 × Int32 × Nat × Int32 × MS) ⊕ (Int32 × MS)) :=
  if (x6 + (15 : Int32)) ≤ x9 then
    (o_gP S x0 10 0).bind fun v136 =>
    (o_gP S v136 2 1).bind fun v139 =>
    (o_is S v139 0).bind fun _ =>
    (fJx4a65c_size_8abf5 S v139).bind fun v142 =>
    if v142 < (30 : Int32) then
      (o_gP S x0 10 0).bind fun v154 =>
      (o_gP S v154 2 0).bind fun v157 =>
      (o_is S v157 0).bind fun _ =>
      (fJx4a65c_get_915e3 S v157 x1).bind fun v161 =>
      (o_is S v161 7).bind fun v164 =>
      (o_gI S v164 7 3).bind fun v167 =>
      (o_gP S x0 10 0).bind fun v173 =>
      (o_gP S v173 2 1).bind fun v176 =>
      (some (m_n S + 1)).bind fun o179 =>
      (some (m_new S 9 0)).bind fun S179 =>
      b2 (fJ7_copyOfRange_feecc S179 x8 x6 (x6 + (15 : Int32))) fun v197 S197 =>
      (fX8_init S197 o179 x1 v167 x2 x3 v197).bind fun S200 =>
      (o_is S200 v176 0).bind fun _ =>
      b2 (fJx4a65c_add_9ea2d S200 v176 o179) fun v203 S203 =>
      (o_is S203 x0 10).bind fun _ =>
      (fX9_lookAgain S203 x0).bind fun S208 =>
      (o_gP S208 x0 10 0).bind fun v212 =>
      (o_gP S208 v212 2 1).bind fun v215 =>
      (o_is S208 v215 0).bind fun _ =>
      (fJx4a65c_size_8abf5 S208 v215).bind fun v218 =>
      some (.inr ((v218 - (1 : Int32)), S208))
    else
      some (.inr ((-4 : Int32), S))
  else
    (o_ld S x8 12 x9).bind fun v116 =>
    (fX9_isWithin v116 (-1 : Int32) (9 : Int32)).bind fun v120 =>
    if v120 = 0 then
      some (.inr ((-2 : Int32), S))
    else
      (some (x9 + 1)).bind fun v129 =>
      some (.inl (x0, x1, x2, x3, x6, x8, v129, S))
noncomputable def sX9_wire : (Nat × Int32 × Int32 × Int32 × Int32 × Nat × Int32 × MS) → Option ((Nat × Int32 × Int32 × Int32 × Int32 × Nat × Int32 × MS) ⊕ (Int32 × MS)) := (fun t => bX9_wire_102 t.2.2.2.2.2.2.2 t.1 t.2.1 t.2.2.1 t.2.2.2.1 t.2.2.2.2.1 t.2.2.2.2.2.1 t.2.2.2.2.2.2.1)
noncomputable def hX9_wire_102 (S : MS) (x0 : Nat) (x1 : Int32) (x2 : Int32) (x3 : Int32) (x6 : Int32) (x8 : Nat) (x9 : Int32) : Option (Int32 × MS) := lim (sX9_wire) (x0, x1, x2, x3, x6, x8, x9, S)
theorem qX9_wire_102 (S : MS) (x0 : Nat) (x1 : Int32) (x2 : Int32) (x3 : Int32) (x6 : Int32) (x8 : Nat) (x9 : Int32) : hX9_wire_102 S x0 x1 x2 x3 x6 x8 x9 = fin (sX9_wire) (bX9_wire_102 S x0 x1 x2 x3 x6 x8 x9) := lim_eq _ _
noncomputable def fX9_wire (S : MS) (a0 : Nat) (a1 : Int32) (a2 : Int32) (a3 : Int32) (a4 : Int32) (a5 : Int32) (a6 : Int32) : Option (Int32 × MS) := fin (sX9_wire) (bX9_wire_0 S a0 a1 a2 a3 a4 a5 a6)
noncomputable def bX9_yOf_0 (S : MS) (x0 : Nat) (x1 : Int32) (x2 : Int32) (x3 : Int32) : Option Int32 :=
  (fX9_isBelow x1 (2 : Int32)).bind fun v2 =>
  if v2 = 0 then
    some (-2 : Int32)
  else
    (o_is S x0 10).bind fun _ =>
    (fX9_frontsOf S x0 x1).bind fun v14 =>
    (o_is S v14 0).bind fun _ =>
    (fJx4a65c_size_8abf5 S v14).bind fun v17 =>
    (fX9_isBelow x2 v17).bind fun v20 =>
    if v20 = 0 then
      some (-1 : Int32)
    else
      (o_is S x0 10).bind fun _ =>
      (fX9_frontsOf S x0 x1).bind fun v30 =>
      (o_is S v30 0).bind fun _ =>
      (fJx4a65c_get_915e3 S v30 x2).bind fun v34 =>
      (o_is S v34 4).bind fun v37 =>
      (o_gI S v37 4 1).bind fun v45 =>
      (o_gI S v37 4 2).bind fun v50 =>
      (fX9_isWithin x3 v45 v50).bind fun v53 =>
      if v53 = 0 then
        some (-1 : Int32)
      else
        (o_gP S v37 4 4).bind fun v63 =>
        (o_ld S v63 12 x3).bind fun v67 =>
        some v67
noncomputable def fX9_yOf (S : MS) (a0 : Nat) (a1 : Int32) (a2 : Int32) (a3 : Int32) : Option Int32 := bX9_yOf_0 S a0 a1 a2 a3
set_option maxHeartbeats 4000000 in
set_option maxRecDepth 100000 in
theorem wX9_prognosis_22 {p : Program} {l : Launch} {e : Env} {s : State} {m : MethodId} {args : Array Value} {below : List Frame} {meth : Method} {c : Code} {D : va_G} {cy : Nat → ClassId} (ad : Nat → Nat) (A : Nat → Prop) {S : MS} {S' : MS} {H : Heap} {locs : List Loc} {n0 : Nat} {r : Int32} {ls : Array Slot} (C0 : CX p s m args meth c RX9 cX9_prognosis 5 D cy) (M : ST D cy ad A s.heap (ZN n0 s.heap.size) S H locs) (hr : meth.sig.returnType = some .int) (hF : bX9_prognosis_22 S = some (r, S')) (hl : lv_has ls 5 []) : W p l e rmX9_prognosis s m args below meth c H locs 0 0 (MQ below (QcM D cy ad A n0 S' (some (.int r))) args s 0 0 A) (F0 m 22 ls []) := by
  unfold bX9_prognosis_22 at hF
  obtain ⟨hx, hb, -, hown, -, hts, -⟩ := id C0
  refine lv_bipush (v := (-2 : Int32)) hx hb dX9_prognosis_22 (by decide) ?_
  obtain ⟨rfl, rfl⟩ := Prod.mk.inj (Option.some.inj hF)
  exact rt_MI C0 M hr dX9_prognosis_24
set_option maxHeartbeats 4000000 in
set_option maxRecDepth 100000 in
theorem wX9_prognosis_0 {p : Program} {l : Launch} {e : Env} {s : State} {m : MethodId} {args : Array Value} {below : List Frame} {meth : Method} {c : Code} {D : va_G} {cy : Nat → ClassId} (ad : Nat → Nat) (A : Nat → Prop) {S : MS} {S' : MS} {H : Heap} {locs : List Loc} {n0 : Nat} {r : Int32} {ls : Array Slot} {x0 : Nat} {x1 : Int32} {x2 : Int32} {x3 : Int32} {x4 : Int32} (C0 : CX p s m args meth c RX9 cX9_prognosis 5 D cy) (M : ST D cy ad A s.heap (ZN n0 s.heap.size) S H locs) (hr : meth.sig.returnType = some .int) (hF : bX9_prognosis_0 S x0 x1 x2 x3 x4 = some (r, S')) (hl : lv_has ls 5 [(0, .ref (ad x0)), (1, .int x1), (2, .int x2), (3, .int x3), (4, .int x4)]) : W p l e rmX9_prognosis s m args below meth c H locs 0 0 (MQ below (QcM D cy ad A n0 S' (some (.int r))) args s 0 0 A) (F0 m 0 ls []) := by
  unfold bX9_prognosis_0 at hF
  obtain ⟨hx, hb, -, hown, -, hts, -⟩ := id C0
  refine lv_iload_n hx hb dX9_prognosis_0 rfl (lv_at hl 1 rfl) ?_
  refine lv_bipush (v := (-11 : Int32)) hx hb dX9_prognosis_1 (by decide) ?_
  refine lv_bipush (v := (11 : Int32)) hx hb dX9_prognosis_3 (by decide) ?_
  obtain ⟨v5, hcl, hF⟩ := ob hF
  refine go_SI (r_S (rest := []) (As := [.int x1, .int (-11 : Int32), .int (11 : Int32)]) C0 cb_X9_86 (tX9_isWithin l D cy ad hcl) (pre_S C0) hl dX9_prognosis_5 rfl (Nat.le_of_ble_eq_true rfl) ⟨rfl, rfl⟩ ⟨Nat.le_of_ble_eq_true rfl, Nat.le_of_ble_eq_true rfl⟩ ⟨Nat.le_of_ble_eq_true rfl, Nat.le_of_ble_eq_true rfl⟩ rfl) ?_
  refine lv_if_eq (tgt := 22) hx hb dX9_prognosis_8 (by decide) (fun hc => ?_) (fun hc => ?_)
  · have hF := oi_t hc hF
    exact wX9_prognosis_22 ad A C0 M hr hF (lv_sub hl [] rfl)
  · have hF := oi_f hc hF
    refine lv_iload_n hx hb dX9_prognosis_11 rfl (lv_at hl 2 rfl) ?_
    refine lv_bipush (v := (-11 : Int32)) hx hb dX9_prognosis_12 (by decide) ?_
    refine lv_bipush (v := (11 : Int32)) hx hb dX9_prognosis_14 (by decide) ?_
    obtain ⟨v16, hcl, hF⟩ := ob hF
    refine go_SI (r_S (rest := []) (As := [.int x2, .int (-11 : Int32), .int (11 : Int32)]) C0 cb_X9_86 (tX9_isWithin l D cy ad hcl) (pre_S C0) hl dX9_prognosis_16 rfl (Nat.le_of_ble_eq_true rfl) ⟨rfl, rfl⟩ ⟨Nat.le_of_ble_eq_true rfl, Nat.le_of_ble_eq_true rfl⟩ ⟨Nat.le_of_ble_eq_true rfl, Nat.le_of_ble_eq_true rfl⟩ rfl) ?_
    refine lv_if_ne (tgt := 25) hx hb dX9_prognosis_19 (by decide) (fun hc => ?_) (fun hc => ?_)
    · have hF := oi_f hc hF
      refine lv_iload_n hx hb dX9_prognosis_25 rfl (lv_at hl 3 rfl) ?_
      refine lv_iload hx hb dX9_prognosis_26 (lv_at hl 4 rfl) ?_
      obtain ⟨v28, hcl, hF⟩ := ob hF
      refine go_SI (r_S (rest := []) (As := [.int x3, .int x4]) C0 cb_X9_83 (tX9_isPlace l D cy ad hcl) (pre_S C0) hl dX9_prognosis_28 rfl (Nat.le_of_ble_eq_true rfl) ⟨rfl, rfl⟩ ⟨Nat.le_of_ble_eq_true rfl, Nat.le_of_ble_eq_true rfl⟩ ⟨Nat.le_of_ble_eq_true rfl, Nat.le_of_ble_eq_true rfl⟩ rfl) ?_
      refine lv_if_ne (tgt := 36) hx hb dX9_prognosis_31 (by decide) (fun hc => ?_) (fun hc => ?_)
      · have hF := oi_f hc hF
        refine lv_aload_n hx hb dX9_prognosis_36 rfl (lv_at hl 0 rfl) ?_
        obtain ⟨_, hrec, hF⟩ := ob hF
        obtain ⟨v37, S37, hcl, hF⟩ := ob2 hF
        refine go_MP (r_V (rest := []) (As := []) C0 cb_X9_137 M.1 hrec (tX9_settledChart l D cy ad A hcl) (pre_R C0 M.1) hl dX9_prognosis_37 rfl (Nat.le_of_ble_eq_true rfl) ⟨rfl, rfl⟩ ⟨Nat.le_of_ble_eq_true rfl, Nat.le_of_ble_eq_true rfl⟩ ⟨Nat.le_of_ble_eq_true rfl, Nat.le_of_ble_eq_true rfl⟩ rfl) M (fun H locs M => ?_)
        refine lv_iload_n hx hb dX9_prognosis_40 rfl (lv_at hl 1 rfl) ?_
        refine lv_iload_n hx hb dX9_prognosis_41 rfl (lv_at hl 2 rfl) ?_
        refine lv_iload_n hx hb dX9_prognosis_42 rfl (lv_at hl 3 rfl) ?_
        refine lv_iload hx hb dX9_prognosis_43 (lv_at hl 4 rfl) ?_
        obtain ⟨_, hrec, hF⟩ := ob hF
        obtain ⟨v45, hcl, hF⟩ := ob hF
        refine go_SI (r_V (rest := []) (As := [.int x1, .int x2, .int x3, .int x4]) C0 cb_X9_294 M.1 hrec (tX0_carriedValue l D cy ad A hcl) (pre_R C0 M.1) hl dX9_prognosis_45 rfl (Nat.le_of_ble_eq_true rfl) ⟨rfl, rfl⟩ ⟨Nat.le_of_ble_eq_true rfl, Nat.le_of_ble_eq_true rfl⟩ ⟨Nat.le_of_ble_eq_true rfl, Nat.le_of_ble_eq_true rfl⟩ rfl) ?_
        obtain ⟨rfl, rfl⟩ := Prod.mk.inj (Option.some.inj hF)
        exact rt_MI C0 M hr dX9_prognosis_48
      · have hF := oi_t hc hF
        refine lv_iconst (v := (-1 : Int32)) hx hb dX9_prognosis_34 (by decide) ?_
        obtain ⟨rfl, rfl⟩ := Prod.mk.inj (Option.some.inj hF)
        exact rt_MI C0 M hr dX9_prognosis_35
    · have hF := oi_t hc hF
      exact wX9_prognosis_22 ad A C0 M hr hF (lv_sub hl [] rfl)
set_option maxHeartbeats 4000000 in
set_option maxRecDepth 100000 in
theorem tX9_prognosis (l : Launch) (D : va_G) (cy : Nat → ClassId) (ad : Nat → Nat) (A : Nat → Prop) {S S' : MS} {a0 : Nat} {a1 : Int32} {a2 : Int32} {a3 : Int32} {a4 : Int32} {r : Int32} (h : fX9_prognosis S a0 a1 a2 a3 a4 = some (r, S')) : Met l yX9_prognosis [Cond.code yX9_prognosis cX9_prognosis 5 (some .int)] rmX9_prognosis (PcR D cy ad A S [.ref (ad a0), .int a1, .int a2, .int a3, .int a4]) (QcM D cy ad A (m_n S) S' (some (.int r))) 0 0 A := by
  refine met_M (by decide +kernel) cw_X9_prognosis (Nat.le_of_ble_eq_true rfl) ?_
  intro p e s m args below meth c ls C0 M hr hin hl
  have hl : lv_has ls 5 [(0, .ref (ad a0)), (1, .int a1), (2, .int a2), (3, .int a3), (4, .int a4)] := hl
  exact wX9_prognosis_0 ad A C0 M hr h hl
set_option maxHeartbeats 4000000 in
set_option maxRecDepth 100000 in
theorem wX7_write_61 {p : Program} {l : Launch} {e : Env} {s : State} {m : MethodId} {args : Array Value} {below : List Frame} {meth : Method} {c : Code} {D : va_G} {cy : Nat → ClassId} (ad : Nat → Nat) (A : Nat → Prop) {S : MS} {S' : MS} {H : Heap} {locs : List Loc} {n0 : Nat} {ls : Array Slot} (C0 : CX p s m args meth c RX7 cX7_write 3 D cy) (M : ST D cy ad A s.heap (ZN n0 s.heap.size) S H locs) (hr : meth.sig.returnType = none) (hF : bX7_write_61 S = some S') (hl : lv_has ls 3 []) : W p l e rmX7_write s m args below meth c H locs 0 0 (MQ below (QcM D cy ad A n0 S' (none)) args s 0 0 A) (F0 m 61 ls []) := by
  unfold bX7_write_61 at hF
  obtain ⟨hx, hb, -, hown, -, hts, -⟩ := id C0
  obtain rfl := (Option.some.inj hF)
  exact rt_MV C0 M hr dX7_write_61
set_option maxHeartbeats 4000000 in
set_option maxRecDepth 100000 in
theorem wX7_write_0 {p : Program} {l : Launch} {e : Env} {s : State} {m : MethodId} {args : Array Value} {below : List Frame} {meth : Method} {c : Code} {D : va_G} {cy : Nat → ClassId} (ad : Nat → Nat) (A : Nat → Prop) {S : MS} {S' : MS} {H : Heap} {locs : List Loc} {n0 : Nat} {ls : Array Slot} {x0 : Nat} {x1 : Int32} {x2 : Int32} (C0 : CX p s m args meth c RX7 cX7_write 3 D cy) (M : ST D cy ad A s.heap (ZN n0 s.heap.size) S H locs) (hr : meth.sig.returnType = none) (hF : bX7_write_0 S x0 x1 x2 = some S') (hl : lv_has ls 3 [(0, .ref (ad x0)), (1, .int x1), (2, .int x2)]) : W p l e rmX7_write s m args below meth c H locs 0 0 (MQ below (QcM D cy ad A n0 S' (none)) args s 0 0 A) (F0 m 0 ls []) := by
  unfold bX7_write_0 at hF
  obtain ⟨hx, hb, -, hown, -, hts, -⟩ := id C0
  refine lv_aload_n hx hb dX7_write_0 rfl (lv_at hl 0 rfl) ?_
  obtain ⟨v1, hv, hF⟩ := ob hF
  refine k_getI C0 M.1 hv fl_X7_11 dX7_write_1 ?_
  by_cases hc0 : v1 = (0 : Int32)
  · have hF := oi_t hc0 hF
    refine lv_lookup (tgt := 32) (off := 28) hx hb dX7_write_4 (by decide) (by rw [hc0]; rfl) (by decide) ?_
    refine lv_aload_n hx hb dX7_write_32 rfl (lv_at hl 0 rfl) ?_
    obtain ⟨v33, hv, hF⟩ := ob hF
    refine k_getP C0 M.1 hv fl_X7_18 dX7_write_33 ?_
    refine lv_iload_n hx hb dX7_write_36 rfl (lv_at hl 1 rfl) ?_
    refine lv_iload_n hx hb dX7_write_37 rfl (lv_at hl 2 rfl) ?_
    refine lv_i2b (v := (x2.toInt8.toInt32)) hx hb dX7_write_38 rfl ?_
    obtain ⟨S39, hv, hF⟩ := ob hF
    refine k_st C0 M hv dX7_write_39 (fun H locs M => ?_)
    refine lv_goto (tgt := 61) hx hb dX7_write_40 (by decide) ?_
    exact wX7_write_61 ad A C0 M hr hF (lv_sub hl [] rfl)
  have hF := oi_f hc0 hF
  by_cases hc1 : v1 = (1 : Int32)
  · have hF := oi_t hc1 hF
    refine lv_lookup (tgt := 43) (off := 39) hx hb dX7_write_4 (by decide) (by rw [hc1]; rfl) (by decide) ?_
    refine lv_aload_n hx hb dX7_write_43 rfl (lv_at hl 0 rfl) ?_
    obtain ⟨v44, hv, hF⟩ := ob hF
    refine k_getP C0 M.1 hv fl_X7_18 dX7_write_44 ?_
    refine lv_iload_n hx hb dX7_write_47 rfl (lv_at hl 1 rfl) ?_
    refine lv_iload_n hx hb dX7_write_48 rfl (lv_at hl 2 rfl) ?_
    refine lv_i2s (v := (x2.toInt16.toInt32)) hx hb dX7_write_49 rfl ?_
    obtain ⟨S50, hv, hF⟩ := ob hF
    refine k_st C0 M hv dX7_write_50 (fun H locs M => ?_)
    refine lv_goto (tgt := 61) hx hb dX7_write_51 (by decide) ?_
    exact wX7_write_61 ad A C0 M hr hF (lv_sub hl [] rfl)
  have hF := oi_f hc1 hF
  refine lv_lookup (tgt := 54) (off := 50) hx hb dX7_write_4 (by decide) (by have hd0 : ¬ v1.toInt = 0 := tne hc0 (by decide); have hd1 : ¬ v1.toInt = 1 := tne hc1 (by decide); simp [Op.lookupswitch.offset, hd0, hd1, Ne.symm hd0, Ne.symm hd1]) (by decide) ?_
  refine lv_aload_n hx hb dX7_write_54 rfl (lv_at hl 0 rfl) ?_
  obtain ⟨v55, hv, hF⟩ := ob hF
  refine k_getP C0 M.1 hv fl_X7_18 dX7_write_55 ?_
  refine lv_iload_n hx hb dX7_write_58 rfl (lv_at hl 1 rfl) ?_
  refine lv_iload_n hx hb dX7_write_59 rfl (lv_at hl 2 rfl) ?_
  obtain ⟨S60, hv, hF⟩ := ob hF
  refine k_st C0 M hv dX7_write_60 (fun H locs M => ?_)
  exact wX7_write_61 ad A C0 M hr hF (lv_sub hl [] rfl)
set_option maxHeartbeats 4000000 in
set_option maxRecDepth 100000 in
theorem tX7_write (l : Launch) (D : va_G) (cy : Nat → ClassId) (ad : Nat → Nat) (A : Nat → Prop) {S S' : MS} {a0 : Nat} {a1 : Int32} {a2 : Int32} (h : fX7_write S a0 a1 a2 = some S') : Met l yX7_write [Cond.code yX7_write cX7_write 3 (none)] rmX7_write (PcR D cy ad A S [.ref (ad a0), .int a1, .int a2]) (QcM D cy ad A (m_n S) S' (none)) 0 0 A := by
  refine met_M (by decide +kernel) cw_X7_write (Nat.le_of_ble_eq_true rfl) ?_
  intro p e s m args below meth c ls C0 M hr hin hl
  have hl : lv_has ls 3 [(0, .ref (ad a0)), (1, .int a1), (2, .int a2)] := hl
  exact wX7_write_0 ad A C0 M hr h hl
set_option maxHeartbeats 4000000 in
set_option maxRecDepth 100000 in
theorem wX9_put_0 {p : Program} {l : Launch} {e : Env} {s : State} {m : MethodId} {args : Array Value} {below : List Frame} {meth : Method} {c : Code} {D : va_G} {cy : Nat → ClassId} (ad : Nat → Nat) (A : Nat → Prop) {S : MS} {S' : MS} {H : Heap} {locs : List Loc} {n0 : Nat} {r : Int32} {ls : Array Slot} {x0 : Nat} {x1 : Int32} {x2 : Int32} {x3 : Int32} (C0 : CX p s m args meth c RX9 cX9_put 5 D cy) (M : ST D cy ad A s.heap (ZN n0 s.heap.size) S H locs) (hr : meth.sig.returnType = some .int) (hF : bX9_put_0 S x0 x1 x2 x3 = some (r, S')) (hl : lv_has ls 5 [(0, .ref (ad x0)), (1, .int x1), (2, .int x2), (3, .int x3)]) : W p l e rmX9_put s m args below meth c H locs 0 0 (MQ below (QcM D cy ad A n0 S' (some (.int r))) args s 0 0 A) (F0 m 0 ls []) := by
  unfold bX9_put_0 at hF
  obtain ⟨hx, hb, -, hown, -, hts, -⟩ := id C0
  refine lv_aload_n hx hb dX9_put_0 rfl (lv_at hl 0 rfl) ?_
  refine lv_iconst (v := (0 : Int32)) hx hb dX9_put_1 (by decide) ?_
  obtain ⟨S2, hv, hF⟩ := ob hF
  refine k_sI C0 M hv fl_X9_76 dX9_put_2 (fun H locs M => ?_)
  refine lv_iload_n hx hb dX9_put_5 rfl (lv_at hl 1 rfl) ?_
  obtain ⟨v6, hcl, hF⟩ := ob hF
  refine go_SI (r_S (rest := []) (As := [.int x1]) C0 cb_X9_150 (tX9_isSheet l D cy ad hcl) (pre_S C0) hl dX9_put_6 rfl (Nat.le_of_ble_eq_true rfl) ⟨rfl, rfl⟩ ⟨Nat.le_of_ble_eq_true rfl, Nat.le_of_ble_eq_true rfl⟩ ⟨Nat.le_of_ble_eq_true rfl, Nat.le_of_ble_eq_true rfl⟩ rfl) ?_
  refine lv_if_ne (tgt := 14) hx hb dX9_put_9 (by decide) (fun hc => ?_) (fun hc => ?_)
  · have hF := oi_f hc hF
    refine lv_aload_n hx hb dX9_put_14 rfl (lv_at hl 0 rfl) ?_
    obtain ⟨v15, hv, hF⟩ := ob hF
    refine k_getP C0 M.1 hv fl_X9_67 dX9_put_15 ?_
    refine lv_iload_n hx hb dX9_put_18 rfl (lv_at hl 1 rfl) ?_
    obtain ⟨v19, hv, hF⟩ := ob hF
    refine k_ldP (ty := (.object "ChartRoom$Sheet")) 2 C0 M.1 (by decide) rfl rfl hv dX9_put_19 ?_
    refine lv_aload_n hx hb dX9_put_20 rfl (lv_at hl 0 rfl) ?_
    obtain ⟨v21, hv, hF⟩ := ob hF
    refine k_getP C0 M.1 hv fl_X9_67 dX9_put_21 ?_
    refine lv_iload_n hx hb dX9_put_24 rfl (lv_at hl 1 rfl) ?_
    obtain ⟨v25, hv, hF⟩ := ob hF
    refine k_ldP (ty := (.object "ChartRoom$Sheet")) 2 C0 M.1 (by decide) rfl rfl hv dX9_put_25 ?_
    obtain ⟨v26, hv, hF⟩ := ob hF
    refine k_getI C0 M.1 hv fl_X9_348 dX9_put_26 ?_
    refine lv_iload_n hx hb dX9_put_29 rfl (lv_at hl 2 rfl) ?_
    refine lv_lconst (v := (1 : Int64)) hx hb dX9_put_30 (by decide) ?_
    obtain ⟨_, hrec, hF⟩ := ob hF
    obtain ⟨v31, hcl, hF⟩ := ob hF
    refine go_SI (r_V (rest := []) (As := [.int v26, .int x2, .long (1 : Int64)]) C0 cb_X9_155 M.1 hrec (tX7_faultOfTaking l D cy ad A hcl) (pre_R C0 M.1) hl dX9_put_31 rfl (Nat.le_of_ble_eq_true rfl) ⟨rfl, rfl⟩ ⟨Nat.le_of_ble_eq_true rfl, Nat.le_of_ble_eq_true rfl⟩ ⟨Nat.le_of_ble_eq_true rfl, Nat.le_of_ble_eq_true rfl⟩ rfl) ?_
    refine lv_istore (lv' := [(4, .int v31), (0, .ref (ad x0)), (1, .int x1), (2, .int x2), (3, .int x3)]) hx hb dX9_put_34 hl (by decide) rfl (fun ls hl => ?_)
    refine lv_iload hx hb dX9_put_36 (lv_at hl 0 rfl) ?_
    refine lv_if_eq (tgt := 48) hx hb dX9_put_38 (by decide) (fun hc => ?_) (fun hc => ?_)
    · have hF := oi_t hc hF
      refine lv_aload_n hx hb dX9_put_48 rfl (lv_at hl 1 rfl) ?_
      obtain ⟨v49, hv, hF⟩ := ob hF
      refine k_getP C0 M.1 hv fl_X9_67 dX9_put_49 ?_
      refine lv_iload_n hx hb dX9_put_52 rfl (lv_at hl 2 rfl) ?_
      obtain ⟨v53, hv, hF⟩ := ob hF
      refine k_ldP (ty := (.object "ChartRoom$Sheet")) 2 C0 M.1 (by decide) rfl rfl hv dX9_put_53 ?_
      refine lv_iload_n hx hb dX9_put_54 rfl (lv_at hl 3 rfl) ?_
      refine lv_iload_n hx hb dX9_put_55 rfl (lv_at hl 4 rfl) ?_
      obtain ⟨_, hrec, hF⟩ := ob hF
      obtain ⟨S56, hcl, hF⟩ := ob hF
      refine go_MV (r_V (rest := []) (As := [.int x2, .int x3]) C0 cb_X9_351 M.1 hrec (tX7_write l D cy ad A hcl) (pre_R C0 M.1) hl dX9_put_56 rfl (Nat.le_of_ble_eq_true rfl) ⟨rfl, rfl⟩ ⟨Nat.le_of_ble_eq_true rfl, Nat.le_of_ble_eq_true rfl⟩ ⟨Nat.le_of_ble_eq_true rfl, Nat.le_of_ble_eq_true rfl⟩ rfl) M (fun H locs M => ?_)
      refine lv_iconst (v := (1 : Int32)) hx hb dX9_put_59 (by decide) ?_
      obtain ⟨rfl, rfl⟩ := Prod.mk.inj (Option.some.inj hF)
      exact rt_MI C0 M hr dX9_put_60
    · have hF := oi_f hc hF
      refine lv_aload_n hx hb dX9_put_41 rfl (lv_at hl 1 rfl) ?_
      refine lv_iload hx hb dX9_put_42 (lv_at hl 0 rfl) ?_
      obtain ⟨_, hrec, hF⟩ := ob hF
      obtain ⟨v44, S44, hcl, hF⟩ := ob2 hF
      refine go_MI (r_V (rest := []) (As := [.int v31]) C0 cb_X9_159 M.1 hrec (tX9_comeTo l D cy ad A hcl) (pre_R C0 M.1) hl dX9_put_44 rfl (Nat.le_of_ble_eq_true rfl) ⟨rfl, rfl⟩ ⟨Nat.le_of_ble_eq_true rfl, Nat.le_of_ble_eq_true rfl⟩ ⟨Nat.le_of_ble_eq_true rfl, Nat.le_of_ble_eq_true rfl⟩ rfl) M (fun H locs M => ?_)
      obtain ⟨rfl, rfl⟩ := Prod.mk.inj (Option.some.inj hF)
      exact rt_MI C0 M hr dX9_put_47
  · have hF := oi_t hc hF
    refine lv_iconst (v := (-1 : Int32)) hx hb dX9_put_12 (by decide) ?_
    obtain ⟨rfl, rfl⟩ := Prod.mk.inj (Option.some.inj hF)
    exact rt_MI C0 M hr dX9_put_13
set_option maxHeartbeats 4000000 in
set_option maxRecDepth 100000 in
theorem tX9_put (l : Launch) (D : va_G) (cy : Nat → ClassId) (ad : Nat → Nat) (A : Nat → Prop) {S S' : MS} {a0 : Nat} {a1 : Int32} {a2 : Int32} {a3 : Int32} {r : Int32} (h : fX9_put S a0 a1 a2 a3 = some (r, S')) : Met l yX9_put [Cond.code yX9_put cX9_put 5 (some .int)] rmX9_put (PcR D cy ad A S [.ref (ad a0), .int a1, .int a2, .int a3]) (QcM D cy ad A (m_n S) S' (some (.int r))) 0 0 A := by
  refine met_M (by decide +kernel) cw_X9_put (Nat.le_of_ble_eq_true rfl) ?_
  intro p e s m args below meth c ls C0 M hr hin hl
  have hl : lv_has ls 5 [(0, .ref (ad a0)), (1, .int a1), (2, .int a2), (3, .int a3)] := hl
  exact wX9_put_0 ad A C0 M hr h hl
set_option maxHeartbeats 4000000 in
set_option maxRecDepth 100000 in
theorem wX9_quarrel_16 {p : Program} {l : Launch} {e : Env} {s : State} {m : MethodId} {args : Array Value} {below : List Frame} {meth : Method} {c : Code} {D : va_G} {cy : Nat → ClassId} (ad : Nat → Nat) (A : Nat → Prop) {S : MS} {S' : MS} {H : Heap} {locs : List Loc} {n0 : Nat} {r : Int32} {ls : Array Slot} (C0 : CX p s m args meth c RX9 cX9_quarrel 3 D cy) (M : ST D cy ad A s.heap (ZN n0 s.heap.size) S H locs) (hr : meth.sig.returnType = some .int) (hF : bX9_quarrel_16 S = some (r, S')) (hl : lv_has ls 3 []) : W p l e rmX9_quarrel s m args below meth c H locs 0 0 (MQ below (QcM D cy ad A n0 S' (some (.int r))) args s 0 0 A) (F0 m 16 ls []) := by
  unfold bX9_quarrel_16 at hF
  obtain ⟨hx, hb, -, hown, -, hts, -⟩ := id C0
  refine lv_iconst (v := (-1 : Int32)) hx hb dX9_quarrel_16 (by decide) ?_
  obtain ⟨rfl, rfl⟩ := Prod.mk.inj (Option.some.inj hF)
  exact rt_MI C0 M hr dX9_quarrel_17
set_option maxHeartbeats 4000000 in
set_option maxRecDepth 100000 in
theorem wX9_quarrel_51 {p : Program} {l : Launch} {e : Env} {s : State} {m : MethodId} {args : Array Value} {below : List Frame} {meth : Method} {c : Code} {D : va_G} {cy : Nat → ClassId} (ad : Nat → Nat) (A : Nat → Prop) {S : MS} {S' : MS} {H : Heap} {locs : List Loc} {n0 : Nat} {r : Int32} {ls : Array Slot} (C0 : CX p s m args meth c RX9 cX9_quarrel 3 D cy) (M : ST D cy ad A s.heap (ZN n0 s.heap.size) S H locs) (hr : meth.sig.returnType = some .int) (hF : bX9_quarrel_51 S = some (r, S')) (hl : lv_has ls 3 []) : W p l e rmX9_quarrel s m args below meth c H locs 0 0 (MQ below (QcM D cy ad A n0 S' (some (.int r))) args s 0 0 A) (F0 m 51 ls []) := by
  unfold bX9_quarrel_51 at hF
  obtain ⟨hx, hb, -, hown, -, hts, -⟩ := id C0
  refine lv_bipush (v := (-3 : Int32)) hx hb dX9_quarrel_51 (by decide) ?_
  obtain ⟨rfl, rfl⟩ := Prod.mk.inj (Option.some.inj hF)
  exact rt_MI C0 M hr dX9_quarrel_53
set_option maxHeartbeats 4000000 in
set_option maxRecDepth 100000 in
theorem wX9_quarrel_75 {p : Program} {l : Launch} {e : Env} {s : State} {m : MethodId} {args : Array Value} {below : List Frame} {meth : Method} {c : Code} {D : va_G} {cy : Nat → ClassId} (ad : Nat → Nat) (A : Nat → Prop) {S : MS} {S' : MS} {H : Heap} {locs : List Loc} {n0 : Nat} {r : Int32} {ls : Array Slot} {z0 : Int32} (C0 : CX p s m args meth c RX9 cX9_quarrel 3 D cy) (M : ST D cy ad A s.heap (ZN n0 s.heap.size) S H locs) (hr : meth.sig.returnType = some .int) (hF : bX9_quarrel_75 S z0 = some (r, S')) (hl : lv_has ls 3 []) : W p l e rmX9_quarrel s m args below meth c H locs 0 0 (MQ below (QcM D cy ad A n0 S' (some (.int r))) args s 0 0 A) (F0 m 75 ls [.int z0]) := by
  unfold bX9_quarrel_75 at hF
  obtain ⟨hx, hb, -, hown, -, hts, -⟩ := id C0
  obtain ⟨rfl, rfl⟩ := Prod.mk.inj (Option.some.inj hF)
  exact rt_MI C0 M hr dX9_quarrel_75
set_option maxHeartbeats 4000000 in
set_option maxRecDepth 100000 in
theorem wX9_quarrel_0 {p : Program} {l : Launch} {e : Env} {s : State} {m : MethodId} {args : Array Value} {below : List Frame} {meth : Method} {c : Code} {D : va_G} {cy : Nat → ClassId} (ad : Nat → Nat) (A : Nat → Prop) {S : MS} {S' : MS} {H : Heap} {locs : List Loc} {n0 : Nat} {r : Int32} {ls : Array Slot} {x0 : Nat} {x1 : Int32} {x2 : Int32} (C0 : CX p s m args meth c RX9 cX9_quarrel 3 D cy) (M : ST D cy ad A s.heap (ZN n0 s.heap.size) S H locs) (hr : meth.sig.returnType = some .int) (hF : bX9_quarrel_0 S x0 x1 x2 = some (r, S')) (hl : lv_has ls 3 [(0, .ref (ad x0)), (1, .int x1), (2, .int x2)]) : W p l e rmX9_quarrel s m args below meth c H locs 0 0 (MQ below (QcM D cy ad A n0 S' (some (.int r))) args s 0 0 A) (F0 m 0 ls []) := by
  unfold bX9_quarrel_0 at hF
  obtain ⟨hx, hb, -, hown, -, hts, -⟩ := id C0
  refine lv_aload_n hx hb dX9_quarrel_0 rfl (lv_at hl 0 rfl) ?_
  refine lv_iload_n hx hb dX9_quarrel_1 rfl (lv_at hl 1 rfl) ?_
  obtain ⟨_, hrec, hF⟩ := ob hF
  obtain ⟨v2, hcl, hF⟩ := ob hF
  refine go_SI (r_V (rest := []) (As := [.int x1]) C0 cb_X9_109 M.1 hrec (tX9_isPost l D cy ad A hcl) (pre_R C0 M.1) hl dX9_quarrel_2 rfl (Nat.le_of_ble_eq_true rfl) ⟨rfl, rfl⟩ ⟨Nat.le_of_ble_eq_true rfl, Nat.le_of_ble_eq_true rfl⟩ ⟨Nat.le_of_ble_eq_true rfl, Nat.le_of_ble_eq_true rfl⟩ rfl) ?_
  refine lv_if_eq (tgt := 16) hx hb dX9_quarrel_5 (by decide) (fun hc => ?_) (fun hc => ?_)
  · have hF := oi_t hc hF
    exact wX9_quarrel_16 ad A C0 M hr hF (lv_sub hl [] rfl)
  · have hF := oi_f hc hF
    refine lv_aload_n hx hb dX9_quarrel_8 rfl (lv_at hl 0 rfl) ?_
    refine lv_iload_n hx hb dX9_quarrel_9 rfl (lv_at hl 2 rfl) ?_
    obtain ⟨_, hrec, hF⟩ := ob hF
    obtain ⟨v10, hcl, hF⟩ := ob hF
    refine go_SI (r_V (rest := []) (As := [.int x2]) C0 cb_X9_109 M.1 hrec (tX9_isPost l D cy ad A hcl) (pre_R C0 M.1) hl dX9_quarrel_10 rfl (Nat.le_of_ble_eq_true rfl) ⟨rfl, rfl⟩ ⟨Nat.le_of_ble_eq_true rfl, Nat.le_of_ble_eq_true rfl⟩ ⟨Nat.le_of_ble_eq_true rfl, Nat.le_of_ble_eq_true rfl⟩ rfl) ?_
    refine lv_if_ne (tgt := 18) hx hb dX9_quarrel_13 (by decide) (fun hc => ?_) (fun hc => ?_)
    · have hF := oi_f hc hF
      refine lv_iload_n hx hb dX9_quarrel_18 rfl (lv_at hl 1 rfl) ?_
      refine lv_iload_n hx hb dX9_quarrel_19 rfl (lv_at hl 2 rfl) ?_
      refine lv_icmp_eq (tgt := 51) hx hb dX9_quarrel_20 (by decide) (fun hc => ?_) (fun hc => ?_)
      · have hF := oi_t hc hF
        exact wX9_quarrel_51 ad A C0 M hr hF (lv_sub hl [] rfl)
      · have hF := oi_f hc hF
        refine lv_aload_n hx hb dX9_quarrel_23 rfl (lv_at hl 0 rfl) ?_
        obtain ⟨v24, hv, hF⟩ := ob hF
        refine k_getP C0 M.1 hv fl_X9_12 dX9_quarrel_24 ?_
        obtain ⟨v27, hv, hF⟩ := ob hF
        refine k_getI C0 M.1 hv fl_X9_205 dX9_quarrel_27 ?_
        refine lv_iload_n hx hb dX9_quarrel_30 rfl (lv_at hl 1 rfl) ?_
        obtain ⟨v31, hcl, hF⟩ := ob hF
        refine go_SI (r_S (rest := []) (As := [.int v27, .int x1]) C0 cb_X9_144 (tX9_isIn l D cy ad hcl) (pre_S C0) hl dX9_quarrel_31 rfl (Nat.le_of_ble_eq_true rfl) ⟨rfl, rfl⟩ ⟨Nat.le_of_ble_eq_true rfl, Nat.le_of_ble_eq_true rfl⟩ ⟨Nat.le_of_ble_eq_true rfl, Nat.le_of_ble_eq_true rfl⟩ rfl) ?_
        refine lv_if_eq (tgt := 51) hx hb dX9_quarrel_34 (by decide) (fun hc => ?_) (fun hc => ?_)
        · have hF := oi_t hc hF
          exact wX9_quarrel_51 ad A C0 M hr hF (lv_sub hl [] rfl)
        · have hF := oi_f hc hF
          refine lv_aload_n hx hb dX9_quarrel_37 rfl (lv_at hl 0 rfl) ?_
          obtain ⟨v38, hv, hF⟩ := ob hF
          refine k_getP C0 M.1 hv fl_X9_12 dX9_quarrel_38 ?_
          obtain ⟨v41, hv, hF⟩ := ob hF
          refine k_getI C0 M.1 hv fl_X9_205 dX9_quarrel_41 ?_
          refine lv_iload_n hx hb dX9_quarrel_44 rfl (lv_at hl 2 rfl) ?_
          obtain ⟨v45, hcl, hF⟩ := ob hF
          refine go_SI (r_S (rest := []) (As := [.int v41, .int x2]) C0 cb_X9_144 (tX9_isIn l D cy ad hcl) (pre_S C0) hl dX9_quarrel_45 rfl (Nat.le_of_ble_eq_true rfl) ⟨rfl, rfl⟩ ⟨Nat.le_of_ble_eq_true rfl, Nat.le_of_ble_eq_true rfl⟩ ⟨Nat.le_of_ble_eq_true rfl, Nat.le_of_ble_eq_true rfl⟩ rfl) ?_
          refine lv_if_ne (tgt := 54) hx hb dX9_quarrel_48 (by decide) (fun hc => ?_) (fun hc => ?_)
          · have hF := oi_f hc hF
            refine lv_aload_n hx hb dX9_quarrel_54 rfl (lv_at hl 0 rfl) ?_
            obtain ⟨_, hrec, hF⟩ := ob hF
            obtain ⟨v55, S55, hcl, hF⟩ := ob2 hF
            refine go_MP (r_V (rest := []) (As := []) C0 cb_X9_137 M.1 hrec (tX9_settledChart l D cy ad A hcl) (pre_R C0 M.1) hl dX9_quarrel_55 rfl (Nat.le_of_ble_eq_true rfl) ⟨rfl, rfl⟩ ⟨Nat.le_of_ble_eq_true rfl, Nat.le_of_ble_eq_true rfl⟩ ⟨Nat.le_of_ble_eq_true rfl, Nat.le_of_ble_eq_true rfl⟩ rfl) M (fun H locs M => ?_)
            obtain ⟨v58, hv, hF⟩ := ob hF
            refine k_getP C0 M.1 hv fl_X9_229 dX9_quarrel_58 ?_
            refine lv_iload_n hx hb dX9_quarrel_61 rfl (lv_at hl 1 rfl) ?_
            obtain ⟨v62, hv, hF⟩ := ob hF
            refine k_ld C0 M.1 hv dX9_quarrel_62 ?_
            refine lv_iload_n hx hb dX9_quarrel_63 rfl (lv_at hl 2 rfl) ?_
            obtain ⟨v64, hcl, hF⟩ := ob hF
            refine go_SI (r_S (rest := []) (As := [.int v62, .int x2]) C0 cb_X9_144 (tX9_isIn l D cy ad hcl) (pre_S C0) hl dX9_quarrel_64 rfl (Nat.le_of_ble_eq_true rfl) ⟨rfl, rfl⟩ ⟨Nat.le_of_ble_eq_true rfl, Nat.le_of_ble_eq_true rfl⟩ ⟨Nat.le_of_ble_eq_true rfl, Nat.le_of_ble_eq_true rfl⟩ rfl) ?_
            refine lv_if_eq (tgt := 74) hx hb dX9_quarrel_67 (by decide) (fun hc => ?_) (fun hc => ?_)
            · have hF := oi_t hc hF
              refine lv_iconst (v := (0 : Int32)) hx hb dX9_quarrel_74 (by decide) ?_
              exact wX9_quarrel_75 ad A C0 M hr hF (lv_sub hl [] rfl)
            · have hF := oi_f hc hF
              refine lv_iconst (v := (1 : Int32)) hx hb dX9_quarrel_70 (by decide) ?_
              refine lv_goto (tgt := 75) hx hb dX9_quarrel_71 (by decide) ?_
              exact wX9_quarrel_75 ad A C0 M hr hF (lv_sub hl [] rfl)
          · have hF := oi_t hc hF
            exact wX9_quarrel_51 ad A C0 M hr hF (lv_sub hl [] rfl)
    · have hF := oi_t hc hF
      exact wX9_quarrel_16 ad A C0 M hr hF (lv_sub hl [] rfl)
set_option maxHeartbeats 4000000 in
set_option maxRecDepth 100000 in
theorem tX9_quarrel (l : Launch) (D : va_G) (cy : Nat → ClassId) (ad : Nat → Nat) (A : Nat → Prop) {S S' : MS} {a0 : Nat} {a1 : Int32} {a2 : Int32} {r : Int32} (h : fX9_quarrel S a0 a1 a2 = some (r, S')) : Met l yX9_quarrel [Cond.code yX9_quarrel cX9_quarrel 3 (some .int)] rmX9_quarrel (PcR D cy ad A S [.ref (ad a0), .int a1, .int a2]) (QcM D cy ad A (m_n S) S' (some (.int r))) 0 0 A := by
  refine met_M (by decide +kernel) cw_X9_quarrel (Nat.le_of_ble_eq_true rfl) ?_
  intro p e s m args below meth c ls C0 M hr hin hl
  have hl : lv_has ls 3 [(0, .ref (ad a0)), (1, .int a1), (2, .int a2)] := hl
  exact wX9_quarrel_0 ad A C0 M hr h hl
set_option maxHeartbeats 4000000 in
set_option maxRecDepth 100000 in
theorem wX9_reading_12 {p : Program} {l : Launch} {e : Env} {s : State} {m : MethodId} {args : Array Value} {below : List Frame} {meth : Method} {c : Code} {D : va_G} {cy : Nat → ClassId} (ad : Nat → Nat) (A : Nat → Prop) {S : MS} {r : Int32} {ls : Array Slot} (C0 : CX p s m args meth c RX9 cX9_reading 5 D cy) (M : MW D cy ad A S s.heap) (hr : meth.sig.returnType = some .int) (hF : bX9_reading_12 S = some r) (hl : lv_has ls 5 []) : W p l e rmX9_reading s m args below meth c s.heap [] 0 0 (MQ below (QcS (some (.int r))) args s 0 0 (fun _ => False)) (F0 m 12 ls []) := by
  unfold bX9_reading_12 at hF
  obtain ⟨hx, hb, -, hown, -, hts, -⟩ := id C0
  refine lv_iconst (v := (-1 : Int32)) hx hb dX9_reading_12 (by decide) ?_
  obtain rfl := (Option.some.inj hF)
  exact rt_SI C0 hr dX9_reading_13
set_option maxHeartbeats 4000000 in
set_option maxRecDepth 100000 in
theorem wX9_reading_0 {p : Program} {l : Launch} {e : Env} {s : State} {m : MethodId} {args : Array Value} {below : List Frame} {meth : Method} {c : Code} {D : va_G} {cy : Nat → ClassId} (ad : Nat → Nat) (A : Nat → Prop) {S : MS} {r : Int32} {ls : Array Slot} {x0 : Nat} {x1 : Int32} {x2 : Int32} {x3 : Int32} (C0 : CX p s m args meth c RX9 cX9_reading 5 D cy) (M : MW D cy ad A S s.heap) (hr : meth.sig.returnType = some .int) (hF : bX9_reading_0 S x0 x1 x2 x3 = some r) (hl : lv_has ls 5 [(0, .ref (ad x0)), (1, .int x1), (2, .int x2), (3, .int x3)]) : W p l e rmX9_reading s m args below meth c s.heap [] 0 0 (MQ below (QcS (some (.int r))) args s 0 0 (fun _ => False)) (F0 m 0 ls []) := by
  unfold bX9_reading_0 at hF
  obtain ⟨hx, hb, -, hown, -, hts, -⟩ := id C0
  refine lv_aload_n hx hb dX9_reading_0 rfl (lv_at hl 0 rfl) ?_
  refine lv_iload_n hx hb dX9_reading_1 rfl (lv_at hl 1 rfl) ?_
  obtain ⟨_, hrec, hF⟩ := ob hF
  obtain ⟨v2, hcl, hF⟩ := ob hF
  refine go_SI (r_V (rest := []) (As := [.int x1]) C0 cb_X9_179 M hrec (tX9_isWire l D cy ad A hcl) (pre_R C0 M) hl dX9_reading_2 rfl (Nat.le_of_ble_eq_true rfl) ⟨rfl, rfl⟩ ⟨Nat.le_of_ble_eq_true rfl, Nat.le_of_ble_eq_true rfl⟩ ⟨Nat.le_of_ble_eq_true rfl, Nat.le_of_ble_eq_true rfl⟩ rfl) ?_
  refine lv_if_eq (tgt := 12) hx hb dX9_reading_5 (by decide) (fun hc => ?_) (fun hc => ?_)
  · have hF := oi_t hc hF
    exact wX9_reading_12 ad A C0 M hr hF (lv_sub hl [] rfl)
  · have hF := oi_f hc hF
    refine lv_iload_n hx hb dX9_reading_8 rfl (lv_at hl 3 rfl) ?_
    refine lv_if_ge (tgt := 14) hx hb dX9_reading_9 (by decide) (fun hc => ?_) (fun hc => ?_)
    · have hF := oi_t hc hF
      refine lv_iload_n hx hb dX9_reading_14 rfl (lv_at hl 2 rfl) ?_
      refine lv_iconst (v := (3 : Int32)) hx hb dX9_reading_15 (by decide) ?_
      obtain ⟨v16, hcl, hF⟩ := ob hF
      refine go_SI (r_S (rest := []) (As := [.int x2, .int (3 : Int32)]) C0 cb_X9_79 (tX9_isBelow l D cy ad hcl) (pre_S C0) hl dX9_reading_16 rfl (Nat.le_of_ble_eq_true rfl) ⟨rfl, rfl⟩ ⟨Nat.le_of_ble_eq_true rfl, Nat.le_of_ble_eq_true rfl⟩ ⟨Nat.le_of_ble_eq_true rfl, Nat.le_of_ble_eq_true rfl⟩ rfl) ?_
      refine lv_if_ne (tgt := 25) hx hb dX9_reading_19 (by decide) (fun hc => ?_) (fun hc => ?_)
      · have hF := oi_f hc hF
        refine lv_aload_n hx hb dX9_reading_25 rfl (lv_at hl 0 rfl) ?_
        obtain ⟨v26, hv, hF⟩ := ob hF
        refine k_getP C0 M hv fl_X9_12 dX9_reading_26 ?_
        obtain ⟨v29, hv, hF⟩ := ob hF
        refine k_getP C0 M hv fl_X9_165 dX9_reading_29 ?_
        refine lv_iload_n hx hb dX9_reading_32 rfl (lv_at hl 1 rfl) ?_
        obtain ⟨_, hrec, hF⟩ := ob hF
        obtain ⟨v33, hcl, hF⟩ := ob hF
        refine go_SP (r_V (rest := []) (As := [.int x1]) C0 cb_X9_113 M hrec (tJx4a65c_get_915e3 l D cy ad A hcl) (pre_R C0 M) hl dX9_reading_33 rfl (Nat.le_of_ble_eq_true rfl) ⟨rfl, rfl⟩ ⟨Nat.le_of_ble_eq_true rfl, Nat.le_of_ble_eq_true rfl⟩ ⟨Nat.le_of_ble_eq_true rfl, Nat.le_of_ble_eq_true rfl⟩ rfl) ?_
        obtain ⟨v36, hv, hF⟩ := ob hF
        refine k_cast (C := RX8) (T := TX8) (N := 6) C0 M hv (by decide) rfl (uw_of 603 (by decide +kernel) rfl) dX9_reading_36 ?_
        refine lv_astore (lv' := [(4, .ref (ad v36)), (0, .ref (ad x0)), (1, .int x1), (2, .int x2), (3, .int x3)]) hx hb dX9_reading_39 hl (by decide) rfl (fun ls hl => ?_)
        refine lv_iload_n hx hb dX9_reading_41 rfl (lv_at hl 4 rfl) ?_
        refine lv_aload hx hb dX9_reading_42 (lv_at hl 0 rfl) ?_
        obtain ⟨v44, hv, hF⟩ := ob hF
        refine k_getP C0 M hv fl_X9_194 dX9_reading_44 ?_
        refine lv_iload_n hx hb dX9_reading_47 rfl (lv_at hl 3 rfl) ?_
        obtain ⟨v48, hv, hF⟩ := ob hF
        refine k_ld C0 M hv dX9_reading_48 ?_
        refine lv_icmp_lt (tgt := 54) hx hb dX9_reading_49 (by decide) (fun hc => ?_) (fun hc => ?_)
        · have hF := oi_t hc hF
          refine lv_aload hx hb dX9_reading_54 (lv_at hl 0 rfl) ?_
          refine lv_iload_n hx hb dX9_reading_56 rfl (lv_at hl 3 rfl) ?_
          refine lv_iload_n hx hb dX9_reading_57 rfl (lv_at hl 4 rfl) ?_
          obtain ⟨_, hrec, hF⟩ := ob hF
          obtain ⟨v58, hcl, hF⟩ := ob hF
          refine go_SI (r_V (rest := []) (As := [.int x2, .int x3]) C0 cb_X9_197 M hrec (tX8_readingAt l D cy ad A hcl) (pre_R C0 M) hl dX9_reading_58 rfl (Nat.le_of_ble_eq_true rfl) ⟨rfl, rfl⟩ ⟨Nat.le_of_ble_eq_true rfl, Nat.le_of_ble_eq_true rfl⟩ ⟨Nat.le_of_ble_eq_true rfl, Nat.le_of_ble_eq_true rfl⟩ rfl) ?_
          obtain rfl := (Option.some.inj hF)
          exact rt_SI C0 hr dX9_reading_61
        · have hF := oi_f hc hF
          refine lv_iconst (v := (-1 : Int32)) hx hb dX9_reading_52 (by decide) ?_
          obtain rfl := (Option.some.inj hF)
          exact rt_SI C0 hr dX9_reading_53
      · have hF := oi_t hc hF
        refine lv_bipush (v := (-2 : Int32)) hx hb dX9_reading_22 (by decide) ?_
        obtain rfl := (Option.some.inj hF)
        exact rt_SI C0 hr dX9_reading_24
    · have hF := oi_f hc hF
      exact wX9_reading_12 ad A C0 M hr hF (lv_sub hl [] rfl)
set_option maxHeartbeats 4000000 in
set_option maxRecDepth 100000 in
theorem tX9_reading (l : Launch) (D : va_G) (cy : Nat → ClassId) (ad : Nat → Nat) (A : Nat → Prop) {S : MS} {a0 : Nat} {a1 : Int32} {a2 : Int32} {a3 : Int32} {r : Int32} (h : fX9_reading S a0 a1 a2 a3 = some r) : Met l yX9_reading [Cond.code yX9_reading cX9_reading 5 (some .int)] rmX9_reading (PcR D cy ad A S [.ref (ad a0), .int a1, .int a2, .int a3]) (QcS (some (.int r))) 0 0 (fun _ => False) := by
  refine met_R (by decide +kernel) cw_X9_reading (Nat.le_of_ble_eq_true rfl) ?_
  intro p e s m args below meth c ls C0 M hr hl
  have hl : lv_has ls 5 [(0, .ref (ad a0)), (1, .int a1), (2, .int a2), (3, .int a3)] := hl
  exact wX9_reading_0 ad A C0 M hr h hl
set_option maxHeartbeats 4000000 in
set_option maxRecDepth 100000 in
theorem wX9_readings_0 {p : Program} {l : Launch} {e : Env} {s : State} {m : MethodId} {args : Array Value} {below : List Frame} {meth : Method} {c : Code} {D : va_G} {cy : Nat → ClassId} (ad : Nat → Nat) (A : Nat → Prop) {S : MS} {r : Int32} {ls : Array Slot} {x0 : Nat} {x1 : Int32} {x2 : Int32} (C0 : CX p s m args meth c RX9 cX9_readings 3 D cy) (M : MW D cy ad A S s.heap) (hr : meth.sig.returnType = some .int) (hF : bX9_readings_0 S x0 x1 x2 = some r) (hl : lv_has ls 3 [(0, .ref (ad x0)), (1, .int x1), (2, .int x2)]) : W p l e rmX9_readings s m args below meth c s.heap [] 0 0 (MQ below (QcS (some (.int r))) args s 0 0 (fun _ => False)) (F0 m 0 ls []) := by
  unfold bX9_readings_0 at hF
  obtain ⟨hx, hb, -, hown, -, hts, -⟩ := id C0
  refine lv_aload_n hx hb dX9_readings_0 rfl (lv_at hl 0 rfl) ?_
  refine lv_iload_n hx hb dX9_readings_1 rfl (lv_at hl 1 rfl) ?_
  obtain ⟨_, hrec, hF⟩ := ob hF
  obtain ⟨v2, hcl, hF⟩ := ob hF
  refine go_SI (r_V (rest := []) (As := [.int x1]) C0 cb_X9_179 M hrec (tX9_isWire l D cy ad A hcl) (pre_R C0 M) hl dX9_readings_2 rfl (Nat.le_of_ble_eq_true rfl) ⟨rfl, rfl⟩ ⟨Nat.le_of_ble_eq_true rfl, Nat.le_of_ble_eq_true rfl⟩ ⟨Nat.le_of_ble_eq_true rfl, Nat.le_of_ble_eq_true rfl⟩ rfl) ?_
  refine lv_if_ne (tgt := 10) hx hb dX9_readings_5 (by decide) (fun hc => ?_) (fun hc => ?_)
  · have hF := oi_f hc hF
    refine lv_iload_n hx hb dX9_readings_10 rfl (lv_at hl 2 rfl) ?_
    refine lv_iconst (v := (3 : Int32)) hx hb dX9_readings_11 (by decide) ?_
    obtain ⟨v12, hcl, hF⟩ := ob hF
    refine go_SI (r_S (rest := []) (As := [.int x2, .int (3 : Int32)]) C0 cb_X9_79 (tX9_isBelow l D cy ad hcl) (pre_S C0) hl dX9_readings_12 rfl (Nat.le_of_ble_eq_true rfl) ⟨rfl, rfl⟩ ⟨Nat.le_of_ble_eq_true rfl, Nat.le_of_ble_eq_true rfl⟩ ⟨Nat.le_of_ble_eq_true rfl, Nat.le_of_ble_eq_true rfl⟩ rfl) ?_
    refine lv_if_ne (tgt := 21) hx hb dX9_readings_15 (by decide) (fun hc => ?_) (fun hc => ?_)
    · have hF := oi_f hc hF
      refine lv_aload_n hx hb dX9_readings_21 rfl (lv_at hl 0 rfl) ?_
      obtain ⟨v22, hv, hF⟩ := ob hF
      refine k_getP C0 M hv fl_X9_12 dX9_readings_22 ?_
      obtain ⟨v25, hv, hF⟩ := ob hF
      refine k_getP C0 M hv fl_X9_165 dX9_readings_25 ?_
      refine lv_iload_n hx hb dX9_readings_28 rfl (lv_at hl 1 rfl) ?_
      obtain ⟨_, hrec, hF⟩ := ob hF
      obtain ⟨v29, hcl, hF⟩ := ob hF
      refine go_SP (r_V (rest := []) (As := [.int x1]) C0 cb_X9_113 M hrec (tJx4a65c_get_915e3 l D cy ad A hcl) (pre_R C0 M) hl dX9_readings_29 rfl (Nat.le_of_ble_eq_true rfl) ⟨rfl, rfl⟩ ⟨Nat.le_of_ble_eq_true rfl, Nat.le_of_ble_eq_true rfl⟩ ⟨Nat.le_of_ble_eq_true rfl, Nat.le_of_ble_eq_true rfl⟩ rfl) ?_
      obtain ⟨v32, hv, hF⟩ := ob hF
      refine k_cast (C := RX8) (T := TX8) (N := 6) C0 M hv (by decide) rfl (uw_of 603 (by decide +kernel) rfl) dX9_readings_32 ?_
      obtain ⟨v35, hv, hF⟩ := ob hF
      refine k_getP C0 M hv fl_X9_194 dX9_readings_35 ?_
      refine lv_iload_n hx hb dX9_readings_38 rfl (lv_at hl 2 rfl) ?_
      obtain ⟨v39, hv, hF⟩ := ob hF
      refine k_ld C0 M hv dX9_readings_39 ?_
      obtain rfl := (Option.some.inj hF)
      exact rt_SI C0 hr dX9_readings_40
    · have hF := oi_t hc hF
      refine lv_bipush (v := (-2 : Int32)) hx hb dX9_readings_18 (by decide) ?_
      obtain rfl := (Option.some.inj hF)
      exact rt_SI C0 hr dX9_readings_20
  · have hF := oi_t hc hF
    refine lv_iconst (v := (-1 : Int32)) hx hb dX9_readings_8 (by decide) ?_
    obtain rfl := (Option.some.inj hF)
    exact rt_SI C0 hr dX9_readings_9
set_option maxHeartbeats 4000000 in
set_option maxRecDepth 100000 in
theorem tX9_readings (l : Launch) (D : va_G) (cy : Nat → ClassId) (ad : Nat → Nat) (A : Nat → Prop) {S : MS} {a0 : Nat} {a1 : Int32} {a2 : Int32} {r : Int32} (h : fX9_readings S a0 a1 a2 = some r) : Met l yX9_readings [Cond.code yX9_readings cX9_readings 3 (some .int)] rmX9_readings (PcR D cy ad A S [.ref (ad a0), .int a1, .int a2]) (QcS (some (.int r))) 0 0 (fun _ => False) := by
  refine met_R (by decide +kernel) cw_X9_readings (Nat.le_of_ble_eq_true rfl) ?_
  intro p e s m args below meth c ls C0 M hr hl
  have hl : lv_has ls 3 [(0, .ref (ad a0)), (1, .int a1), (2, .int a2)] := hl
  exact wX9_readings_0 ad A C0 M hr h hl
set_option maxHeartbeats 4000000 in
set_option maxRecDepth 100000 in
theorem wX7_renew_0 {p : Program} {l : Launch} {e : Env} {s : State} {m : MethodId} {args : Array Value} {below : List Frame} {meth : Method} {c : Code} {D : va_G} {cy : Nat → ClassId} (ad : Nat → Nat) (A : Nat → Prop) {S : MS} {S' : MS} {H : Heap} {locs : List Loc} {n0 : Nat} {ls : Array Slot} {x0 : Nat} {x1 : Int32} {x2 : Int32} (C0 : CX p s m args meth c RX7 cX7_renew 3 D cy) (M : ST D cy ad A s.heap (ZN n0 s.heap.size) S H locs) (hr : meth.sig.returnType = none) (hF : bX7_renew_0 S x0 x1 x2 = some S') (hl : lv_has ls 3 [(0, .ref (ad x0)), (1, .int x1), (2, .int x2)]) : W p l e rmX7_renew s m args below meth c H locs 0 0 (MQ below (QcM D cy ad A n0 S' (none)) args s 0 0 A) (F0 m 0 ls []) := by
  unfold bX7_renew_0 at hF
  obtain ⟨hx, hb, -, hown, -, hts, -⟩ := id C0
  refine lv_aload_n hx hb dX7_renew_0 rfl (lv_at hl 0 rfl) ?_
  refine lv_iload_n hx hb dX7_renew_1 rfl (lv_at hl 1 rfl) ?_
  obtain ⟨S2, hv, hF⟩ := ob hF
  refine k_sI C0 M hv fl_X7_11 dX7_renew_2 (fun H locs M => ?_)
  refine lv_aload_n hx hb dX7_renew_5 rfl (lv_at hl 0 rfl) ?_
  refine lv_iload_n hx hb dX7_renew_6 rfl (lv_at hl 2 rfl) ?_
  obtain ⟨S7, hv, hF⟩ := ob hF
  refine k_sI C0 M hv fl_X7_15 dX7_renew_7 (fun H locs M => ?_)
  refine lv_aload_n hx hb dX7_renew_10 rfl (lv_at hl 0 rfl) ?_
  obtain ⟨v11, hv, hF⟩ := ob hF
  refine k_getP C0 M.1 hv fl_X7_18 dX7_renew_11 ?_
  refine lv_iconst (v := (0 : Int32)) hx hb dX7_renew_14 (by decide) ?_
  obtain ⟨S15, hcl, hF⟩ := ob hF
  refine go_MV (r_S (rest := []) (As := [.ref (ad v11), .int (0 : Int32)]) C0 cb_X7_22 (tJ7_fill_53178 l D cy ad A hcl) (pre_R C0 M.1) hl dX7_renew_15 rfl (Nat.le_of_ble_eq_true rfl) ⟨rfl, rfl⟩ ⟨Nat.le_of_ble_eq_true rfl, Nat.le_of_ble_eq_true rfl⟩ ⟨Nat.le_of_ble_eq_true rfl, Nat.le_of_ble_eq_true rfl⟩ rfl) M (fun H locs M => ?_)
  obtain rfl := (Option.some.inj hF)
  exact rt_MV C0 M hr dX7_renew_18
set_option maxHeartbeats 4000000 in
set_option maxRecDepth 100000 in
theorem tX7_renew (l : Launch) (D : va_G) (cy : Nat → ClassId) (ad : Nat → Nat) (A : Nat → Prop) {S S' : MS} {a0 : Nat} {a1 : Int32} {a2 : Int32} (h : fX7_renew S a0 a1 a2 = some S') : Met l yX7_renew [Cond.code yX7_renew cX7_renew 3 (none)] rmX7_renew (PcR D cy ad A S [.ref (ad a0), .int a1, .int a2]) (QcM D cy ad A (m_n S) S' (none)) 0 0 A := by
  refine met_M (by decide +kernel) cw_X7_renew (Nat.le_of_ble_eq_true rfl) ?_
  intro p e s m args below meth c ls C0 M hr hin hl
  have hl : lv_has ls 3 [(0, .ref (ad a0)), (1, .int a1), (2, .int a2)] := hl
  exact wX7_renew_0 ad A C0 M hr h hl
set_option maxHeartbeats 4000000 in
set_option maxRecDepth 100000 in
theorem wX9_sheet_28 {p : Program} {l : Launch} {e : Env} {s : State} {m : MethodId} {args : Array Value} {below : List Frame} {meth : Method} {c : Code} {D : va_G} {cy : Nat → ClassId} (ad : Nat → Nat) (A : Nat → Prop) {S : MS} {S' : MS} {H : Heap} {locs : List Loc} {n0 : Nat} {r : Int32} {ls : Array Slot} (C0 : CX p s m args meth c RX9 cX9_sheet 4 D cy) (M : ST D cy ad A s.heap (ZN n0 s.heap.size) S H locs) (hr : meth.sig.returnType = some .int) (hF : bX9_sheet_28 S = some (r, S')) (hl : lv_has ls 4 []) : W p l e rmX9_sheet s m args below meth c H locs 0 0 (MQ below (QcM D cy ad A n0 S' (some (.int r))) args s 0 0 A) (F0 m 28 ls []) := by
  unfold bX9_sheet_28 at hF
  obtain ⟨hx, hb, -, hown, -, hts, -⟩ := id C0
  refine lv_bipush (v := (-2 : Int32)) hx hb dX9_sheet_28 (by decide) ?_
  obtain ⟨rfl, rfl⟩ := Prod.mk.inj (Option.some.inj hF)
  exact rt_MI C0 M hr dX9_sheet_30
set_option maxHeartbeats 4000000 in
set_option maxRecDepth 100000 in
theorem wX9_sheet_0 {p : Program} {l : Launch} {e : Env} {s : State} {m : MethodId} {args : Array Value} {below : List Frame} {meth : Method} {c : Code} {D : va_G} {cy : Nat → ClassId} (ad : Nat → Nat) (A : Nat → Prop) {S : MS} {S' : MS} {H : Heap} {locs : List Loc} {n0 : Nat} {r : Int32} {ls : Array Slot} {x0 : Nat} {x1 : Int32} {x2 : Int32} {x3 : Int32} (C0 : CX p s m args meth c RX9 cX9_sheet 4 D cy) (M : ST D cy ad A s.heap (ZN n0 s.heap.size) S H locs) (hr : meth.sig.returnType = some .int) (hF : bX9_sheet_0 S x0 x1 x2 x3 = some (r, S')) (hl : lv_has ls 4 [(0, .ref (ad x0)), (1, .int x1), (2, .int x2), (3, .int x3)]) : W p l e rmX9_sheet s m args below meth c H locs 0 0 (MQ below (QcM D cy ad A n0 S' (some (.int r))) args s 0 0 A) (F0 m 0 ls []) := by
  unfold bX9_sheet_0 at hF
  obtain ⟨hx, hb, -, hown, -, hts, -⟩ := id C0
  refine lv_aload_n hx hb dX9_sheet_0 rfl (lv_at hl 0 rfl) ?_
  refine lv_iconst (v := (0 : Int32)) hx hb dX9_sheet_1 (by decide) ?_
  obtain ⟨S2, hv, hF⟩ := ob hF
  refine k_sI C0 M hv fl_X9_76 dX9_sheet_2 (fun H locs M => ?_)
  refine lv_iload_n hx hb dX9_sheet_5 rfl (lv_at hl 1 rfl) ?_
  obtain ⟨v6, hcl, hF⟩ := ob hF
  refine go_SI (r_S (rest := []) (As := [.int x1]) C0 cb_X9_150 (tX9_isSheet l D cy ad hcl) (pre_S C0) hl dX9_sheet_6 rfl (Nat.le_of_ble_eq_true rfl) ⟨rfl, rfl⟩ ⟨Nat.le_of_ble_eq_true rfl, Nat.le_of_ble_eq_true rfl⟩ ⟨Nat.le_of_ble_eq_true rfl, Nat.le_of_ble_eq_true rfl⟩ rfl) ?_
  refine lv_if_ne (tgt := 14) hx hb dX9_sheet_9 (by decide) (fun hc => ?_) (fun hc => ?_)
  · have hF := oi_f hc hF
    refine lv_iload_n hx hb dX9_sheet_14 rfl (lv_at hl 2 rfl) ?_
    refine lv_iconst (v := (3 : Int32)) hx hb dX9_sheet_15 (by decide) ?_
    obtain ⟨v16, hcl, hF⟩ := ob hF
    refine go_SI (r_S (rest := []) (As := [.int x2, .int (3 : Int32)]) C0 cb_X9_79 (tX9_isBelow l D cy ad hcl) (pre_S C0) hl dX9_sheet_16 rfl (Nat.le_of_ble_eq_true rfl) ⟨rfl, rfl⟩ ⟨Nat.le_of_ble_eq_true rfl, Nat.le_of_ble_eq_true rfl⟩ ⟨Nat.le_of_ble_eq_true rfl, Nat.le_of_ble_eq_true rfl⟩ rfl) ?_
    refine lv_if_eq (tgt := 28) hx hb dX9_sheet_19 (by decide) (fun hc => ?_) (fun hc => ?_)
    · have hF := oi_t hc hF
      exact wX9_sheet_28 ad A C0 M hr hF (lv_sub hl [] rfl)
    · have hF := oi_f hc hF
      refine lv_iload_n hx hb dX9_sheet_22 rfl (lv_at hl 3 rfl) ?_
      refine lv_bipush (v := (60 : Int32)) hx hb dX9_sheet_23 (by decide) ?_
      refine lv_icmp_le (tgt := 31) hx hb dX9_sheet_25 (by decide) (fun hc => ?_) (fun hc => ?_)
      · have hF := oi_t hc hF
        refine lv_iload_n hx hb dX9_sheet_31 rfl (lv_at hl 3 rfl) ?_
        refine lv_if_ge (tgt := 41) hx hb dX9_sheet_32 (by decide) (fun hc => ?_) (fun hc => ?_)
        · have hF := oi_t hc hF
          refine lv_aload_n hx hb dX9_sheet_41 rfl (lv_at hl 0 rfl) ?_
          obtain ⟨v42, hv, hF⟩ := ob hF
          refine k_getP C0 M.1 hv fl_X9_67 dX9_sheet_42 ?_
          refine lv_iload_n hx hb dX9_sheet_45 rfl (lv_at hl 1 rfl) ?_
          obtain ⟨v46, hv, hF⟩ := ob hF
          refine k_ldP (ty := (.object "ChartRoom$Sheet")) 2 C0 M.1 (by decide) rfl rfl hv dX9_sheet_46 ?_
          refine lv_iload_n hx hb dX9_sheet_47 rfl (lv_at hl 2 rfl) ?_
          refine lv_iload_n hx hb dX9_sheet_48 rfl (lv_at hl 3 rfl) ?_
          obtain ⟨_, hrec, hF⟩ := ob hF
          obtain ⟨S49, hcl, hF⟩ := ob hF
          refine go_MV (r_V (rest := []) (As := [.int x2, .int x3]) C0 cb_X9_337 M.1 hrec (tX7_renew l D cy ad A hcl) (pre_R C0 M.1) hl dX9_sheet_49 rfl (Nat.le_of_ble_eq_true rfl) ⟨rfl, rfl⟩ ⟨Nat.le_of_ble_eq_true rfl, Nat.le_of_ble_eq_true rfl⟩ ⟨Nat.le_of_ble_eq_true rfl, Nat.le_of_ble_eq_true rfl⟩ rfl) M (fun H locs M => ?_)
          refine lv_iconst (v := (1 : Int32)) hx hb dX9_sheet_52 (by decide) ?_
          obtain ⟨rfl, rfl⟩ := Prod.mk.inj (Option.some.inj hF)
          exact rt_MI C0 M hr dX9_sheet_53
        · have hF := oi_f hc hF
          refine lv_aload_n hx hb dX9_sheet_35 rfl (lv_at hl 0 rfl) ?_
          refine lv_iconst (v := (4 : Int32)) hx hb dX9_sheet_36 (by decide) ?_
          obtain ⟨_, hrec, hF⟩ := ob hF
          obtain ⟨v37, S37, hcl, hF⟩ := ob2 hF
          refine go_MI (r_V (rest := []) (As := [.int (4 : Int32)]) C0 cb_X9_159 M.1 hrec (tX9_comeTo l D cy ad A hcl) (pre_R C0 M.1) hl dX9_sheet_37 rfl (Nat.le_of_ble_eq_true rfl) ⟨rfl, rfl⟩ ⟨Nat.le_of_ble_eq_true rfl, Nat.le_of_ble_eq_true rfl⟩ ⟨Nat.le_of_ble_eq_true rfl, Nat.le_of_ble_eq_true rfl⟩ rfl) M (fun H locs M => ?_)
          obtain ⟨rfl, rfl⟩ := Prod.mk.inj (Option.some.inj hF)
          exact rt_MI C0 M hr dX9_sheet_40
      · have hF := oi_f hc hF
        exact wX9_sheet_28 ad A C0 M hr hF (lv_sub hl [] rfl)
  · have hF := oi_t hc hF
    refine lv_iconst (v := (-1 : Int32)) hx hb dX9_sheet_12 (by decide) ?_
    obtain ⟨rfl, rfl⟩ := Prod.mk.inj (Option.some.inj hF)
    exact rt_MI C0 M hr dX9_sheet_13
set_option maxHeartbeats 4000000 in
set_option maxRecDepth 100000 in
theorem tX9_sheet (l : Launch) (D : va_G) (cy : Nat → ClassId) (ad : Nat → Nat) (A : Nat → Prop) {S S' : MS} {a0 : Nat} {a1 : Int32} {a2 : Int32} {a3 : Int32} {r : Int32} (h : fX9_sheet S a0 a1 a2 a3 = some (r, S')) : Met l yX9_sheet [Cond.code yX9_sheet cX9_sheet 4 (some .int)] rmX9_sheet (PcR D cy ad A S [.ref (ad a0), .int a1, .int a2, .int a3]) (QcM D cy ad A (m_n S) S' (some (.int r))) 0 0 A := by
  refine met_M (by decide +kernel) cw_X9_sheet (Nat.le_of_ble_eq_true rfl) ?_
  intro p e s m args below meth c ls C0 M hr hin hl
  have hl : lv_has ls 4 [(0, .ref (ad a0)), (1, .int a1), (2, .int a2), (3, .int a3)] := hl
  exact wX9_sheet_0 ad A C0 M hr h hl
set_option maxHeartbeats 4000000 in
set_option maxRecDepth 100000 in
theorem wX9_steep_0 {p : Program} {l : Launch} {e : Env} {s : State} {m : MethodId} {args : Array Value} {below : List Frame} {meth : Method} {c : Code} {D : va_G} {cy : Nat → ClassId} (ad : Nat → Nat) (A : Nat → Prop) {S : MS} {S' : MS} {H : Heap} {locs : List Loc} {n0 : Nat} {r : Int32} {ls : Array Slot} {x0 : Nat} {x1 : Int32} (C0 : CX p s m args meth c RX9 cX9_steep 3 D cy) (M : ST D cy ad A s.heap (ZN n0 s.heap.size) S H locs) (hr : meth.sig.returnType = some .int) (hF : bX9_steep_0 S x0 x1 = some (r, S')) (hl : lv_has ls 3 [(0, .ref (ad x0)), (1, .int x1)]) : W p l e rmX9_steep s m args below meth c H locs 0 0 (MQ below (QcM D cy ad A n0 S' (some (.int r))) args s 0 0 A) (F0 m 0 ls []) := by
  unfold bX9_steep_0 at hF
  obtain ⟨hx, hb, -, hown, -, hts, -⟩ := id C0
  refine lv_iload_n hx hb dX9_steep_0 rfl (lv_at hl 1 rfl) ?_
  refine lv_iconst (v := (1 : Int32)) hx hb dX9_steep_1 (by decide) ?_
  refine lv_sipush (v := (500 : Int32)) hx hb dX9_steep_2 (by decide) ?_
  obtain ⟨v5, hcl, hF⟩ := ob hF
  refine go_SI (r_S (rest := []) (As := [.int x1, .int (1 : Int32), .int (500 : Int32)]) C0 cb_X9_86 (tX9_isWithin l D cy ad hcl) (pre_S C0) hl dX9_steep_5 rfl (Nat.le_of_ble_eq_true rfl) ⟨rfl, rfl⟩ ⟨Nat.le_of_ble_eq_true rfl, Nat.le_of_ble_eq_true rfl⟩ ⟨Nat.le_of_ble_eq_true rfl, Nat.le_of_ble_eq_true rfl⟩ rfl) ?_
  refine lv_if_ne (tgt := 14) hx hb dX9_steep_8 (by decide) (fun hc => ?_) (fun hc => ?_)
  · have hF := oi_f hc hF
    refine lv_aload_n hx hb dX9_steep_14 rfl (lv_at hl 0 rfl) ?_
    obtain ⟨v15, hv, hF⟩ := ob hF
    refine k_getP C0 M.1 hv fl_X9_21 dX9_steep_15 ?_
    obtain ⟨v18, hv, hF⟩ := ob hF
    refine k_getI C0 M.1 hv fl_X9_226 dX9_steep_18 ?_
    refine lv_istore_n (lv' := [(2, .int v18), (0, .ref (ad x0)), (1, .int x1)]) hx hb dX9_steep_21 rfl hl (by decide) rfl (fun ls hl => ?_)
    refine lv_aload_n hx hb dX9_steep_22 rfl (lv_at hl 1 rfl) ?_
    obtain ⟨v23, hv, hF⟩ := ob hF
    refine k_getP C0 M.1 hv fl_X9_21 dX9_steep_23 ?_
    refine lv_iload_n hx hb dX9_steep_26 rfl (lv_at hl 2 rfl) ?_
    obtain ⟨S27, hv, hF⟩ := ob hF
    refine k_sI C0 M hv fl_X9_226 dX9_steep_27 (fun H locs M => ?_)
    refine lv_aload_n hx hb dX9_steep_30 rfl (lv_at hl 1 rfl) ?_
    refine lv_iconst (v := (1 : Int32)) hx hb dX9_steep_31 (by decide) ?_
    have hz : o_zb (1 : Int32) = some (1 : Int32) := rfl
    obtain ⟨S32, hv, hF⟩ := ob hF
    refine k_sZ C0 M hz hv fl_X9_25 dX9_steep_32 (fun H locs M => ?_)
    refine lv_iload_n hx hb dX9_steep_35 rfl (lv_at hl 0 rfl) ?_
    obtain ⟨rfl, rfl⟩ := Prod.mk.inj (Option.some.inj hF)
    exact rt_MI C0 M hr dX9_steep_36
  · have hF := oi_t hc hF
    refine lv_bipush (v := (-2 : Int32)) hx hb dX9_steep_11 (by decide) ?_
    obtain ⟨rfl, rfl⟩ := Prod.mk.inj (Option.some.inj hF)
    exact rt_MI C0 M hr dX9_steep_13
set_option maxHeartbeats 4000000 in
set_option maxRecDepth 100000 in
theorem tX9_steep (l : Launch) (D : va_G) (cy : Nat → ClassId) (ad : Nat → Nat) (A : Nat → Prop) {S S' : MS} {a0 : Nat} {a1 : Int32} {r : Int32} (h : fX9_steep S a0 a1 = some (r, S')) : Met l yX9_steep [Cond.code yX9_steep cX9_steep 3 (some .int)] rmX9_steep (PcR D cy ad A S [.ref (ad a0), .int a1]) (QcM D cy ad A (m_n S) S' (some (.int r))) 0 0 A := by
  refine met_M (by decide +kernel) cw_X9_steep (Nat.le_of_ble_eq_true rfl) ?_
  intro p e s m args below meth c ls C0 M hr hin hl
  have hl : lv_has ls 3 [(0, .ref (ad a0)), (1, .int a1)] := hl
  exact wX9_steep_0 ad A C0 M hr h hl
set_option maxHeartbeats 4000000 in
set_option maxRecDepth 100000 in
theorem wX9_tellAsPost_0 {p : Program} {l : Launch} {e : Env} {s : State} {m : MethodId} {args : Array Value} {below : List Frame} {meth : Method} {c : Code} {D : va_G} {cy : Nat → ClassId} (ad : Nat → Nat) (A : Nat → Prop) {S : MS} {S' : MS} {H : Heap} {locs : List Loc} {n0 : Nat} {r : Int32} {ls : Array Slot} {x0 : Nat} {x1 : Nat} (C0 : CX p s m args meth c RX9 cX9_tellAsPost 2 D cy) (M : ST D cy ad A s.heap (ZN n0 s.heap.size) S H locs) (hr : meth.sig.returnType = some .int) (hF : bX9_tellAsPost_0 S x0 x1 = some (r, S')) (hl : lv_has ls 2 [(0, .ref (ad x0)), (1, .ref (ad x1))]) : W p l e rmX9_tellAsPost s m args below meth c H locs 0 0 (MQ below (QcM D cy ad A n0 S' (some (.int r))) args s 0 0 A) (F0 m 0 ls []) := by
  unfold bX9_tellAsPost_0 at hF
  obtain ⟨hx, hb, -, hown, -, hts, -⟩ := id C0
  refine lv_aload_n hx hb dX9_tellAsPost_0 rfl (lv_at hl 0 rfl) ?_
  refine lv_iconst (v := (1 : Int32)) hx hb dX9_tellAsPost_1 (by decide) ?_
  obtain ⟨_, hrec, hF⟩ := ob hF
  obtain ⟨S2, hcl, hF⟩ := ob hF
  refine go_MV (r_V (rest := []) (As := [.int (1 : Int32)]) C0 cb_X9_368 M.1 hrec (tX9_leaveInTrace l D cy ad A hcl) (pre_R C0 M.1) hl dX9_tellAsPost_2 rfl (Nat.le_of_ble_eq_true rfl) ⟨rfl, rfl⟩ ⟨Nat.le_of_ble_eq_true rfl, Nat.le_of_ble_eq_true rfl⟩ ⟨Nat.le_of_ble_eq_true rfl, Nat.le_of_ble_eq_true rfl⟩ rfl) M (fun H locs M => ?_)
  refine lv_aload_n hx hb dX9_tellAsPost_5 rfl (lv_at hl 1 rfl) ?_
  obtain ⟨v6, hv, hF⟩ := ob hF
  refine k_getI C0 M.1 hv fl_X9_126 dX9_tellAsPost_6 ?_
  obtain ⟨rfl, rfl⟩ := Prod.mk.inj (Option.some.inj hF)
  exact rt_MI C0 M hr dX9_tellAsPost_9
set_option maxHeartbeats 4000000 in
set_option maxRecDepth 100000 in
theorem tX9_tellAsPost (l : Launch) (D : va_G) (cy : Nat → ClassId) (ad : Nat → Nat) (A : Nat → Prop) {S S' : MS} {a0 : Nat} {a1 : Nat} {r : Int32} (h : fX9_tellAsPost S a0 a1 = some (r, S')) : Met l yX9_tellAsPost [Cond.code yX9_tellAsPost cX9_tellAsPost 2 (some .int)] rmX9_tellAsPost (PcR D cy ad A S [.ref (ad a0), .ref (ad a1)]) (QcM D cy ad A (m_n S) S' (some (.int r))) 0 0 A := by
  refine met_M (by decide +kernel) cw_X9_tellAsPost (Nat.le_of_ble_eq_true rfl) ?_
  intro p e s m args below meth c ls C0 M hr hin hl
  have hl : lv_has ls 2 [(0, .ref (ad a0)), (1, .ref (ad a1))] := hl
  exact wX9_tellAsPost_0 ad A C0 M hr h hl
set_option maxHeartbeats 4000000 in
set_option maxRecDepth 100000 in
theorem wX9_tellAsShip_0 {p : Program} {l : Launch} {e : Env} {s : State} {m : MethodId} {args : Array Value} {below : List Frame} {meth : Method} {c : Code} {D : va_G} {cy : Nat → ClassId} (ad : Nat → Nat) (A : Nat → Prop) {S : MS} {S' : MS} {H : Heap} {locs : List Loc} {n0 : Nat} {r : Int32} {ls : Array Slot} {x0 : Nat} {x1 : Nat} (C0 : CX p s m args meth c RX9 cX9_tellAsShip 2 D cy) (M : ST D cy ad A s.heap (ZN n0 s.heap.size) S H locs) (hr : meth.sig.returnType = some .int) (hF : bX9_tellAsShip_0 S x0 x1 = some (r, S')) (hl : lv_has ls 2 [(0, .ref (ad x0)), (1, .ref (ad x1))]) : W p l e rmX9_tellAsShip s m args below meth c H locs 0 0 (MQ below (QcM D cy ad A n0 S' (some (.int r))) args s 0 0 A) (F0 m 0 ls []) := by
  unfold bX9_tellAsShip_0 at hF
  obtain ⟨hx, hb, -, hown, -, hts, -⟩ := id C0
  refine lv_aload_n hx hb dX9_tellAsShip_0 rfl (lv_at hl 0 rfl) ?_
  refine lv_iconst (v := (2 : Int32)) hx hb dX9_tellAsShip_1 (by decide) ?_
  obtain ⟨_, hrec, hF⟩ := ob hF
  obtain ⟨S2, hcl, hF⟩ := ob hF
  refine go_MV (r_V (rest := []) (As := [.int (2 : Int32)]) C0 cb_X9_368 M.1 hrec (tX9_leaveInTrace l D cy ad A hcl) (pre_R C0 M.1) hl dX9_tellAsShip_2 rfl (Nat.le_of_ble_eq_true rfl) ⟨rfl, rfl⟩ ⟨Nat.le_of_ble_eq_true rfl, Nat.le_of_ble_eq_true rfl⟩ ⟨Nat.le_of_ble_eq_true rfl, Nat.le_of_ble_eq_true rfl⟩ rfl) M (fun H locs M => ?_)
  refine lv_aload_n hx hb dX9_tellAsShip_5 rfl (lv_at hl 0 rfl) ?_
  refine lv_aload_n hx hb dX9_tellAsShip_6 rfl (lv_at hl 1 rfl) ?_
  obtain ⟨_, hrec, hF⟩ := ob hF
  obtain ⟨v7, S7, hcl, hF⟩ := ob2 hF
  refine go_MI (r_V (rest := []) (As := [.ref (ad x1)]) C0 cb_X9_365 M.1 hrec (tX9_tellAsPost l D cy ad A hcl) (pre_R C0 M.1) hl dX9_tellAsShip_7 rfl (Nat.le_of_ble_eq_true rfl) ⟨rfl, rfl⟩ ⟨Nat.le_of_ble_eq_true rfl, Nat.le_of_ble_eq_true rfl⟩ ⟨Nat.le_of_ble_eq_true rfl, Nat.le_of_ble_eq_true rfl⟩ rfl) M (fun H locs M => ?_)
  refine lv_aload_n hx hb dX9_tellAsShip_10 rfl (lv_at hl 1 rfl) ?_
  obtain ⟨v11, hv, hF⟩ := ob hF
  refine k_getI C0 M.1 hv fl_X9_385 dX9_tellAsShip_11 ?_
  refine lv_iadd hx hb dX9_tellAsShip_14 ?_
  obtain ⟨rfl, rfl⟩ := Prod.mk.inj (Option.some.inj hF)
  exact rt_MI C0 M hr dX9_tellAsShip_15
set_option maxHeartbeats 4000000 in
set_option maxRecDepth 100000 in
theorem tX9_tellAsShip (l : Launch) (D : va_G) (cy : Nat → ClassId) (ad : Nat → Nat) (A : Nat → Prop) {S S' : MS} {a0 : Nat} {a1 : Nat} {r : Int32} (h : fX9_tellAsShip S a0 a1 = some (r, S')) : Met l yX9_tellAsShip [Cond.code yX9_tellAsShip cX9_tellAsShip 2 (some .int)] rmX9_tellAsShip (PcR D cy ad A S [.ref (ad a0), .ref (ad a1)]) (QcM D cy ad A (m_n S) S' (some (.int r))) 0 0 A := by
  refine met_M (by decide +kernel) cw_X9_tellAsShip (Nat.le_of_ble_eq_true rfl) ?_
  intro p e s m args below meth c ls C0 M hr hin hl
  have hl : lv_has ls 2 [(0, .ref (ad a0)), (1, .ref (ad a1))] := hl
  exact wX9_tellAsShip_0 ad A C0 M hr h hl
set_option maxHeartbeats 4000000 in
set_option maxRecDepth 100000 in
theorem wX9_tellAsBuoy_0 {p : Program} {l : Launch} {e : Env} {s : State} {m : MethodId} {args : Array Value} {below : List Frame} {meth : Method} {c : Code} {D : va_G} {cy : Nat → ClassId} (ad : Nat → Nat) (A : Nat → Prop) {S : MS} {S' : MS} {H : Heap} {locs : List Loc} {n0 : Nat} {r : Int32} {ls : Array Slot} {x0 : Nat} {x1 : Nat} (C0 : CX p s m args meth c RX9 cX9_tellAsBuoy 3 D cy) (M : ST D cy ad A s.heap (ZN n0 s.heap.size) S H locs) (hr : meth.sig.returnType = some .int) (hF : bX9_tellAsBuoy_0 S x0 x1 = some (r, S')) (hl : lv_has ls 3 [(0, .ref (ad x0)), (1, .ref (ad x1))]) : W p l e rmX9_tellAsBuoy s m args below meth c H locs 0 0 (MQ below (QcM D cy ad A n0 S' (some (.int r))) args s 0 0 A) (F0 m 0 ls []) := by
  unfold bX9_tellAsBuoy_0 at hF
  obtain ⟨hx, hb, -, hown, -, hts, -⟩ := id C0
  refine lv_aload_n hx hb dX9_tellAsBuoy_0 rfl (lv_at hl 0 rfl) ?_
  refine lv_iconst (v := (3 : Int32)) hx hb dX9_tellAsBuoy_1 (by decide) ?_
  obtain ⟨_, hrec, hF⟩ := ob hF
  obtain ⟨S2, hcl, hF⟩ := ob hF
  refine go_MV (r_V (rest := []) (As := [.int (3 : Int32)]) C0 cb_X9_368 M.1 hrec (tX9_leaveInTrace l D cy ad A hcl) (pre_R C0 M.1) hl dX9_tellAsBuoy_2 rfl (Nat.le_of_ble_eq_true rfl) ⟨rfl, rfl⟩ ⟨Nat.le_of_ble_eq_true rfl, Nat.le_of_ble_eq_true rfl⟩ ⟨Nat.le_of_ble_eq_true rfl, Nat.le_of_ble_eq_true rfl⟩ rfl) M (fun H locs M => ?_)
  refine lv_aload_n hx hb dX9_tellAsBuoy_5 rfl (lv_at hl 0 rfl) ?_
  refine lv_aload_n hx hb dX9_tellAsBuoy_6 rfl (lv_at hl 1 rfl) ?_
  obtain ⟨_, hrec, hF⟩ := ob hF
  obtain ⟨v7, S7, hcl, hF⟩ := ob2 hF
  refine go_MI (r_V (rest := []) (As := [.ref (ad x1)]) C0 cb_X9_362 M.1 hrec (tX9_tellAsShip l D cy ad A hcl) (pre_R C0 M.1) hl dX9_tellAsBuoy_7 rfl (Nat.le_of_ble_eq_true rfl) ⟨rfl, rfl⟩ ⟨Nat.le_of_ble_eq_true rfl, Nat.le_of_ble_eq_true rfl⟩ ⟨Nat.le_of_ble_eq_true rfl, Nat.le_of_ble_eq_true rfl⟩ rfl) M (fun H locs M => ?_)
  refine lv_istore_n (lv' := [(2, .int v7), (0, .ref (ad x0)), (1, .ref (ad x1))]) hx hb dX9_tellAsBuoy_10 rfl hl (by decide) rfl (fun ls hl => ?_)
  refine lv_iload_n hx hb dX9_tellAsBuoy_11 rfl (lv_at hl 0 rfl) ?_
  refine lv_aload_n hx hb dX9_tellAsBuoy_12 rfl (lv_at hl 1 rfl) ?_
  refine lv_aload_n hx hb dX9_tellAsBuoy_13 rfl (lv_at hl 2 rfl) ?_
  obtain ⟨_, hrec, hF⟩ := ob hF
  obtain ⟨v14, S14, hcl, hF⟩ := ob2 hF
  refine go_MI (r_V (rest := [.int v7]) (As := [.ref (ad x1)]) C0 cb_X9_365 M.1 hrec (tX9_tellAsPost l D cy ad A hcl) (pre_R C0 M.1) hl dX9_tellAsBuoy_14 rfl (Nat.le_of_ble_eq_true rfl) ⟨rfl, rfl⟩ ⟨Nat.le_of_ble_eq_true rfl, Nat.le_of_ble_eq_true rfl⟩ ⟨Nat.le_of_ble_eq_true rfl, Nat.le_of_ble_eq_true rfl⟩ rfl) M (fun H locs M => ?_)
  refine lv_iadd hx hb dX9_tellAsBuoy_17 ?_
  obtain ⟨rfl, rfl⟩ := Prod.mk.inj (Option.some.inj hF)
  exact rt_MI C0 M hr dX9_tellAsBuoy_18
set_option maxHeartbeats 4000000 in
set_option maxRecDepth 100000 in
theorem tX9_tellAsBuoy (l : Launch) (D : va_G) (cy : Nat → ClassId) (ad : Nat → Nat) (A : Nat → Prop) {S S' : MS} {a0 : Nat} {a1 : Nat} {r : Int32} (h : fX9_tellAsBuoy S a0 a1 = some (r, S')) : Met l yX9_tellAsBuoy [Cond.code yX9_tellAsBuoy cX9_tellAsBuoy 3 (some .int)] rmX9_tellAsBuoy (PcR D cy ad A S [.ref (ad a0), .ref (ad a1)]) (QcM D cy ad A (m_n S) S' (some (.int r))) 0 0 A := by
  refine met_M (by decide +kernel) cw_X9_tellAsBuoy (Nat.le_of_ble_eq_true rfl) ?_
  intro p e s m args below meth c ls C0 M hr hin hl
  have hl : lv_has ls 3 [(0, .ref (ad a0)), (1, .ref (ad a1))] := hl
  exact wX9_tellAsBuoy_0 ad A C0 M hr h hl
set_option maxHeartbeats 4000000 in
set_option maxRecDepth 100000 in
theorem wX9_tell_0 {p : Program} {l : Launch} {e : Env} {s : State} {m : MethodId} {args : Array Value} {below : List Frame} {meth : Method} {c : Code} {D : va_G} {cy : Nat → ClassId} (ad : Nat → Nat) (A : Nat → Prop) {S : MS} {S' : MS} {H : Heap} {locs : List Loc} {n0 : Nat} {r : Int32} {ls : Array Slot} {x0 : Nat} {x1 : Int32} (C0 : CX p s m args meth c RX9 cX9_tell 3 D cy) (M : ST D cy ad A s.heap (ZN n0 s.heap.size) S H locs) (hr : meth.sig.returnType = some .int) (hF : bX9_tell_0 S x0 x1 = some (r, S')) (hl : lv_has ls 3 [(0, .ref (ad x0)), (1, .int x1)]) : W p l e rmX9_tell s m args below meth c H locs 0 0 (MQ below (QcM D cy ad A n0 S' (some (.int r))) args s 0 0 A) (F0 m 0 ls []) := by
  unfold bX9_tell_0 at hF
  obtain ⟨hx, hb, -, hown, -, hts, -⟩ := id C0
  refine lv_aload_n hx hb dX9_tell_0 rfl (lv_at hl 0 rfl) ?_
  refine lv_iload_n hx hb dX9_tell_1 rfl (lv_at hl 1 rfl) ?_
  obtain ⟨_, hrec, hF⟩ := ob hF
  obtain ⟨v2, hcl, hF⟩ := ob hF
  refine go_SI (r_V (rest := []) (As := [.int x1]) C0 cb_X9_109 M.1 hrec (tX9_isPost l D cy ad A hcl) (pre_R C0 M.1) hl dX9_tell_2 rfl (Nat.le_of_ble_eq_true rfl) ⟨rfl, rfl⟩ ⟨Nat.le_of_ble_eq_true rfl, Nat.le_of_ble_eq_true rfl⟩ ⟨Nat.le_of_ble_eq_true rfl, Nat.le_of_ble_eq_true rfl⟩ rfl) ?_
  refine lv_if_ne (tgt := 10) hx hb dX9_tell_5 (by decide) (fun hc => ?_) (fun hc => ?_)
  · have hF := oi_f hc hF
    refine lv_aload_n hx hb dX9_tell_10 rfl (lv_at hl 0 rfl) ?_
    obtain ⟨v11, hv, hF⟩ := ob hF
    refine k_getP C0 M.1 hv fl_X9_12 dX9_tell_11 ?_
    obtain ⟨v14, hv, hF⟩ := ob hF
    refine k_getP C0 M.1 hv fl_X9_90 dX9_tell_14 ?_
    refine lv_iload_n hx hb dX9_tell_17 rfl (lv_at hl 1 rfl) ?_
    obtain ⟨_, hrec, hF⟩ := ob hF
    obtain ⟨v18, hcl, hF⟩ := ob hF
    refine go_SP (r_V (rest := []) (As := [.int x1]) C0 cb_X9_113 M.1 hrec (tJx4a65c_get_915e3 l D cy ad A hcl) (pre_R C0 M.1) hl dX9_tell_18 rfl (Nat.le_of_ble_eq_true rfl) ⟨rfl, rfl⟩ ⟨Nat.le_of_ble_eq_true rfl, Nat.le_of_ble_eq_true rfl⟩ ⟨Nat.le_of_ble_eq_true rfl, Nat.le_of_ble_eq_true rfl⟩ rfl) ?_
    obtain ⟨v21, hv, hF⟩ := ob hF
    refine k_cast (C := RX6) (T := TX6) (N := 6) C0 M.1 hv (by decide) rfl (uw_of 345 (by decide +kernel) rfl) dX9_tell_21 ?_
    refine lv_astore_n (lv' := [(2, .ref (ad v21)), (0, .ref (ad x0)), (1, .int x1)]) hx hb dX9_tell_24 rfl hl (by decide) rfl (fun ls hl => ?_)
    refine lv_aload_n hx hb dX9_tell_25 rfl (lv_at hl 0 rfl) ?_
    obtain ⟨v26, hv, hF⟩ := ob hF
    refine k_getI C0 M.1 hv fl_X9_117 dX9_tell_26 ?_
    by_cases hc0 : v26 = (1 : Int32)
    · have hF := oi_t hc0 hF
      refine lv_lookup (tgt := 62) (off := 33) hx hb dX9_tell_29 (by decide) (by rw [hc0]; rfl) (by decide) ?_
      refine lv_aload_n hx hb dX9_tell_62 rfl (lv_at hl 1 rfl) ?_
      refine lv_aload_n hx hb dX9_tell_63 rfl (lv_at hl 0 rfl) ?_
      obtain ⟨_, hrec, hF⟩ := ob hF
      obtain ⟨v64, S64, hcl, hF⟩ := ob2 hF
      refine go_MI (r_V (rest := []) (As := [.ref (ad v21)]) C0 cb_X9_362 M.1 hrec (tX9_tellAsShip l D cy ad A hcl) (pre_R C0 M.1) hl dX9_tell_64 rfl (Nat.le_of_ble_eq_true rfl) ⟨rfl, rfl⟩ ⟨Nat.le_of_ble_eq_true rfl, Nat.le_of_ble_eq_true rfl⟩ ⟨Nat.le_of_ble_eq_true rfl, Nat.le_of_ble_eq_true rfl⟩ rfl) M (fun H locs M => ?_)
      obtain ⟨rfl, rfl⟩ := Prod.mk.inj (Option.some.inj hF)
      exact rt_MI C0 M hr dX9_tell_67
    have hF := oi_f hc0 hF
    by_cases hc1 : v26 = (2 : Int32)
    · have hF := oi_t hc1 hF
      refine lv_lookup (tgt := 56) (off := 27) hx hb dX9_tell_29 (by decide) (by rw [hc1]; rfl) (by decide) ?_
      refine lv_aload_n hx hb dX9_tell_56 rfl (lv_at hl 1 rfl) ?_
      refine lv_aload_n hx hb dX9_tell_57 rfl (lv_at hl 0 rfl) ?_
      obtain ⟨_, hrec, hF⟩ := ob hF
      obtain ⟨v58, S58, hcl, hF⟩ := ob2 hF
      refine go_MI (r_V (rest := []) (As := [.ref (ad v21)]) C0 cb_X9_358 M.1 hrec (tX9_tellAsBuoy l D cy ad A hcl) (pre_R C0 M.1) hl dX9_tell_58 rfl (Nat.le_of_ble_eq_true rfl) ⟨rfl, rfl⟩ ⟨Nat.le_of_ble_eq_true rfl, Nat.le_of_ble_eq_true rfl⟩ ⟨Nat.le_of_ble_eq_true rfl, Nat.le_of_ble_eq_true rfl⟩ rfl) M (fun H locs M => ?_)
      obtain ⟨rfl, rfl⟩ := Prod.mk.inj (Option.some.inj hF)
      exact rt_MI C0 M hr dX9_tell_61
    have hF := oi_f hc1 hF
    refine lv_lookup (tgt := 68) (off := 39) hx hb dX9_tell_29 (by decide) (by have hd0 : ¬ v26.toInt = 1 := tne hc0 (by decide); have hd1 : ¬ v26.toInt = 2 := tne hc1 (by decide); simp [Op.lookupswitch.offset, hd0, hd1, Ne.symm hd0, Ne.symm hd1]) (by decide) ?_
    refine lv_aload_n hx hb dX9_tell_68 rfl (lv_at hl 1 rfl) ?_
    refine lv_aload_n hx hb dX9_tell_69 rfl (lv_at hl 0 rfl) ?_
    obtain ⟨_, hrec, hF⟩ := ob hF
    obtain ⟨v70, S70, hcl, hF⟩ := ob2 hF
    refine go_MI (r_V (rest := []) (As := [.ref (ad v21)]) C0 cb_X9_365 M.1 hrec (tX9_tellAsPost l D cy ad A hcl) (pre_R C0 M.1) hl dX9_tell_70 rfl (Nat.le_of_ble_eq_true rfl) ⟨rfl, rfl⟩ ⟨Nat.le_of_ble_eq_true rfl, Nat.le_of_ble_eq_true rfl⟩ ⟨Nat.le_of_ble_eq_true rfl, Nat.le_of_ble_eq_true rfl⟩ rfl) M (fun H locs M => ?_)
    obtain ⟨rfl, rfl⟩ := Prod.mk.inj (Option.some.inj hF)
    exact rt_MI C0 M hr dX9_tell_73
  · have hF := oi_t hc hF
    refine lv_iconst (v := (-1 : Int32)) hx hb dX9_tell_8 (by decide) ?_
    obtain ⟨rfl, rfl⟩ := Prod.mk.inj (Option.some.inj hF)
    exact rt_MI C0 M hr dX9_tell_9
set_option maxHeartbeats 4000000 in
set_option maxRecDepth 100000 in
theorem tX9_tell (l : Launch) (D : va_G) (cy : Nat → ClassId) (ad : Nat → Nat) (A : Nat → Prop) {S S' : MS} {a0 : Nat} {a1 : Int32} {r : Int32} (h : fX9_tell S a0 a1 = some (r, S')) : Met l yX9_tell [Cond.code yX9_tell cX9_tell 3 (some .int)] rmX9_tell (PcR D cy ad A S [.ref (ad a0), .int a1]) (QcM D cy ad A (m_n S) S' (some (.int r))) 0 0 A := by
  refine met_M (by decide +kernel) cw_X9_tell (Nat.le_of_ble_eq_true rfl) ?_
  intro p e s m args below meth c ls C0 M hr hin hl
  have hl : lv_has ls 3 [(0, .ref (ad a0)), (1, .int a1)] := hl
  exact wX9_tell_0 ad A C0 M hr h hl
set_option maxHeartbeats 4000000 in
set_option maxRecDepth 100000 in
theorem wX9_told_92 {p : Program} {l : Launch} {e : Env} {s : State} {m : MethodId} {args : Array Value} {below : List Frame} {meth : Method} {c : Code} {D : va_G} {cy : Nat → ClassId} (ad : Nat → Nat) (A : Nat → Prop) {S : MS} {r : Int32} {ls : Array Slot} {z0 : Int32} (C0 : CX p s m args meth c RX9 cX9_told 4 D cy) (M : MW D cy ad A S s.heap) (hr : meth.sig.returnType = some .int) (hF : bX9_told_92 S z0 = some r) (hl : lv_has ls 4 []) : W p l e rmX9_told s m args below meth c s.heap [] 0 0 (MQ below (QcS (some (.int r))) args s 0 0 (fun _ => False)) (F0 m 92 ls [.int z0]) := by
  unfold bX9_told_92 at hF
  obtain ⟨hx, hb, -, hown, -, hts, -⟩ := id C0
  obtain rfl := (Option.some.inj hF)
  exact rt_SI C0 hr dX9_told_92
set_option maxHeartbeats 4000000 in
set_option maxRecDepth 100000 in
theorem wX9_told_0 {p : Program} {l : Launch} {e : Env} {s : State} {m : MethodId} {args : Array Value} {below : List Frame} {meth : Method} {c : Code} {D : va_G} {cy : Nat → ClassId} (ad : Nat → Nat) (A : Nat → Prop) {S : MS} {r : Int32} {ls : Array Slot} {x0 : Nat} {x1 : Int32} {x2 : Int32} (C0 : CX p s m args meth c RX9 cX9_told 4 D cy) (M : MW D cy ad A S s.heap) (hr : meth.sig.returnType = some .int) (hF : bX9_told_0 S x0 x1 x2 = some r) (hl : lv_has ls 4 [(0, .ref (ad x0)), (1, .int x1), (2, .int x2)]) : W p l e rmX9_told s m args below meth c s.heap [] 0 0 (MQ below (QcS (some (.int r))) args s 0 0 (fun _ => False)) (F0 m 0 ls []) := by
  unfold bX9_told_0 at hF
  obtain ⟨hx, hb, -, hown, -, hts, -⟩ := id C0
  refine lv_aload_n hx hb dX9_told_0 rfl (lv_at hl 0 rfl) ?_
  refine lv_iload_n hx hb dX9_told_1 rfl (lv_at hl 1 rfl) ?_
  obtain ⟨_, hrec, hF⟩ := ob hF
  obtain ⟨v2, hcl, hF⟩ := ob hF
  refine go_SI (r_V (rest := []) (As := [.int x1]) C0 cb_X9_179 M hrec (tX9_isWire l D cy ad A hcl) (pre_R C0 M) hl dX9_told_2 rfl (Nat.le_of_ble_eq_true rfl) ⟨rfl, rfl⟩ ⟨Nat.le_of_ble_eq_true rfl, Nat.le_of_ble_eq_true rfl⟩ ⟨Nat.le_of_ble_eq_true rfl, Nat.le_of_ble_eq_true rfl⟩ rfl) ?_
  refine lv_if_ne (tgt := 10) hx hb dX9_told_5 (by decide) (fun hc => ?_) (fun hc => ?_)
  · have hF := oi_f hc hF
    refine lv_aload_n hx hb dX9_told_10 rfl (lv_at hl 0 rfl) ?_
    obtain ⟨v11, hv, hF⟩ := ob hF
    refine k_getP C0 M hv fl_X9_12 dX9_told_11 ?_
    obtain ⟨v14, hv, hF⟩ := ob hF
    refine k_getP C0 M hv fl_X9_165 dX9_told_14 ?_
    refine lv_iload_n hx hb dX9_told_17 rfl (lv_at hl 1 rfl) ?_
    obtain ⟨_, hrec, hF⟩ := ob hF
    obtain ⟨v18, hcl, hF⟩ := ob hF
    refine go_SP (r_V (rest := []) (As := [.int x1]) C0 cb_X9_113 M hrec (tJx4a65c_get_915e3 l D cy ad A hcl) (pre_R C0 M) hl dX9_told_18 rfl (Nat.le_of_ble_eq_true rfl) ⟨rfl, rfl⟩ ⟨Nat.le_of_ble_eq_true rfl, Nat.le_of_ble_eq_true rfl⟩ ⟨Nat.le_of_ble_eq_true rfl, Nat.le_of_ble_eq_true rfl⟩ rfl) ?_
    obtain ⟨v21, hv, hF⟩ := ob hF
    refine k_cast (C := RX8) (T := TX8) (N := 6) C0 M hv (by decide) rfl (uw_of 603 (by decide +kernel) rfl) dX9_told_21 ?_
    refine lv_astore_n (lv' := [(3, .ref (ad v21)), (0, .ref (ad x0)), (1, .int x1), (2, .int x2)]) hx hb dX9_told_24 rfl hl (by decide) rfl (fun ls hl => ?_)
    refine lv_iload_n hx hb dX9_told_25 rfl (lv_at hl 3 rfl) ?_
    by_cases hc0 : x2 = (0 : Int32)
    · have hF := oi_t hc0 hF
      refine lv_tableIn (tgt := 56) (off := 30) hx hb dX9_told_26 (by rw [hc0]; decide) (by rw [hc0]; decide) (by rw [hc0]; rfl) (by decide) ?_
      refine lv_aload_n hx hb dX9_told_56 rfl (lv_at hl 0 rfl) ?_
      obtain ⟨v57, hv, hF⟩ := ob hF
      refine k_getI C0 M hv fl_X9_182 dX9_told_57 ?_
      obtain rfl := (Option.some.inj hF)
      exact rt_SI C0 hr dX9_told_60
    have hF := oi_f hc0 hF
    by_cases hc1 : x2 = (1 : Int32)
    · have hF := oi_t hc1 hF
      refine lv_tableIn (tgt := 61) (off := 35) hx hb dX9_told_26 (by rw [hc1]; decide) (by rw [hc1]; decide) (by rw [hc1]; rfl) (by decide) ?_
      refine lv_aload_n hx hb dX9_told_61 rfl (lv_at hl 0 rfl) ?_
      obtain ⟨v62, hv, hF⟩ := ob hF
      refine k_getI C0 M hv fl_X9_185 dX9_told_62 ?_
      obtain rfl := (Option.some.inj hF)
      exact rt_SI C0 hr dX9_told_65
    have hF := oi_f hc1 hF
    by_cases hc2 : x2 = (2 : Int32)
    · have hF := oi_t hc2 hF
      refine lv_tableIn (tgt := 66) (off := 40) hx hb dX9_told_26 (by rw [hc2]; decide) (by rw [hc2]; decide) (by rw [hc2]; rfl) (by decide) ?_
      refine lv_aload_n hx hb dX9_told_66 rfl (lv_at hl 0 rfl) ?_
      obtain ⟨v67, hv, hF⟩ := ob hF
      refine k_getI C0 M hv fl_X9_188 dX9_told_67 ?_
      obtain rfl := (Option.some.inj hF)
      exact rt_SI C0 hr dX9_told_70
    have hF := oi_f hc2 hF
    by_cases hc3 : x2 = (3 : Int32)
    · have hF := oi_t hc3 hF
      refine lv_tableIn (tgt := 71) (off := 45) hx hb dX9_told_26 (by rw [hc3]; decide) (by rw [hc3]; decide) (by rw [hc3]; rfl) (by decide) ?_
      refine lv_aload_n hx hb dX9_told_71 rfl (lv_at hl 1 rfl) ?_
      obtain ⟨v72, hv, hF⟩ := ob hF
      refine k_getP C0 M hv fl_X9_12 dX9_told_72 ?_
      obtain ⟨v75, hv, hF⟩ := ob hF
      refine k_getP C0 M hv fl_X9_133 dX9_told_75 ?_
      refine lv_aload_n hx hb dX9_told_78 rfl (lv_at hl 0 rfl) ?_
      obtain ⟨v79, hv, hF⟩ := ob hF
      refine k_getI C0 M hv fl_X9_182 dX9_told_79 ?_
      obtain ⟨v82, hv, hF⟩ := ob hF
      refine k_ld C0 M hv dX9_told_82 ?_
      refine lv_iload_n hx hb dX9_told_83 rfl (lv_at hl 2 rfl) ?_
      refine lv_icmp_ne (tgt := 91) hx hb dX9_told_84 (by decide) (fun hc => ?_) (fun hc => ?_)
      · have hF := oi_f hc hF
        refine lv_iconst (v := (0 : Int32)) hx hb dX9_told_91 (by decide) ?_
        exact wX9_told_92 ad A C0 M hr hF (lv_sub hl [] rfl)
      · have hF := oi_t hc hF
        refine lv_iconst (v := (1 : Int32)) hx hb dX9_told_87 (by decide) ?_
        refine lv_goto (tgt := 92) hx hb dX9_told_88 (by decide) ?_
        exact wX9_told_92 ad A C0 M hr hF (lv_sub hl [] rfl)
    have hF := oi_f hc3 hF
    refine lv_tableOut (tgt := 93) hx hb dX9_told_26 (tsw (x := x2) (n := 4) (by decide) (fun k hk => by rcases (show k = 0 ∨ k = 1 ∨ k = 2 ∨ k = 3 by omega) with rfl | rfl | rfl | rfl <;> first | exact hc0 | exact hc1 | exact hc2 | exact hc3)) (by decide) ?_
    refine lv_bipush (v := (-2 : Int32)) hx hb dX9_told_93 (by decide) ?_
    obtain rfl := (Option.some.inj hF)
    exact rt_SI C0 hr dX9_told_95
  · have hF := oi_t hc hF
    refine lv_iconst (v := (-1 : Int32)) hx hb dX9_told_8 (by decide) ?_
    obtain rfl := (Option.some.inj hF)
    exact rt_SI C0 hr dX9_told_9
set_option maxHeartbeats 4000000 in
set_option maxRecDepth 100000 in
theorem tX9_told (l : Launch) (D : va_G) (cy : Nat → ClassId) (ad : Nat → Nat) (A : Nat → Prop) {S : MS} {a0 : Nat} {a1 : Int32} {a2 : Int32} {r : Int32} (h : fX9_told S a0 a1 a2 = some r) : Met l yX9_told [Cond.code yX9_told cX9_told 4 (some .int)] rmX9_told (PcR D cy ad A S [.ref (ad a0), .int a1, .int a2]) (QcS (some (.int r))) 0 0 (fun _ => False) := by
  refine met_R (by decide +kernel) cw_X9_told (Nat.le_of_ble_eq_true rfl) ?_
  intro p e s m args below meth c ls C0 M hr hl
  have hl : lv_has ls 4 [(0, .ref (ad a0)), (1, .int a1), (2, .int a2)] := hl
  exact wX9_told_0 ad A C0 M hr h hl
set_option maxHeartbeats 4000000 in
set_option maxRecDepth 100000 in
theorem wX9_trace_0 {p : Program} {l : Launch} {e : Env} {s : State} {m : MethodId} {args : Array Value} {below : List Frame} {meth : Method} {c : Code} {D : va_G} {cy : Nat → ClassId} (ad : Nat → Nat) (A : Nat → Prop) {S : MS} {r : Int32} {ls : Array Slot} {x0 : Nat} (C0 : CX p s m args meth c RX9 cX9_trace 1 D cy) (M : MW D cy ad A S s.heap) (hr : meth.sig.returnType = some .int) (hF : bX9_trace_0 S x0 = some r) (hl : lv_has ls 1 [(0, .ref (ad x0))]) : W p l e rmX9_trace s m args below meth c s.heap [] 0 0 (MQ below (QcS (some (.int r))) args s 0 0 (fun _ => False)) (F0 m 0 ls []) := by
  unfold bX9_trace_0 at hF
  obtain ⟨hx, hb, -, hown, -, hts, -⟩ := id C0
  refine lv_aload_n hx hb dX9_trace_0 rfl (lv_at hl 0 rfl) ?_
  obtain ⟨v1, hv, hF⟩ := ob hF
  refine k_getI C0 M hv fl_X9_72 dX9_trace_1 ?_
  obtain rfl := (Option.some.inj hF)
  exact rt_SI C0 hr dX9_trace_4
set_option maxHeartbeats 4000000 in
set_option maxRecDepth 100000 in
theorem tX9_trace (l : Launch) (D : va_G) (cy : Nat → ClassId) (ad : Nat → Nat) (A : Nat → Prop) {S : MS} {a0 : Nat} {r : Int32} (h : fX9_trace S a0 = some r) : Met l yX9_trace [Cond.code yX9_trace cX9_trace 1 (some .int)] rmX9_trace (PcR D cy ad A S [.ref (ad a0)]) (QcS (some (.int r))) 0 0 (fun _ => False) := by
  refine met_R (by decide +kernel) cw_X9_trace (Nat.le_of_ble_eq_true rfl) ?_
  intro p e s m args below meth c ls C0 M hr hl
  have hl : lv_has ls 1 [(0, .ref (ad a0))] := hl
  exact wX9_trace_0 ad A C0 M hr h hl
set_option maxHeartbeats 4000000 in
set_option maxRecDepth 100000 in
theorem wX9_value_0 {p : Program} {l : Launch} {e : Env} {s : State} {m : MethodId} {args : Array Value} {below : List Frame} {meth : Method} {c : Code} {D : va_G} {cy : Nat → ClassId} (ad : Nat → Nat) (A : Nat → Prop) {S : MS} {S' : MS} {H : Heap} {locs : List Loc} {n0 : Nat} {r : Int32} {ls : Array Slot} {x0 : Nat} {x1 : Int32} {x2 : Int32} (C0 : CX p s m args meth c RX9 cX9_value 3 D cy) (M : ST D cy ad A s.heap (ZN n0 s.heap.size) S H locs) (hr : meth.sig.returnType = some .int) (hF : bX9_value_0 S x0 x1 x2 = some (r, S')) (hl : lv_has ls 3 [(0, .ref (ad x0)), (1, .int x1), (2, .int x2)]) : W p l e rmX9_value s m args below meth c H locs 0 0 (MQ below (QcM D cy ad A n0 S' (some (.int r))) args s 0 0 A) (F0 m 0 ls []) := by
  unfold bX9_value_0 at hF
  obtain ⟨hx, hb, -, hown, -, hts, -⟩ := id C0
  refine lv_iload_n hx hb dX9_value_0 rfl (lv_at hl 1 rfl) ?_
  refine lv_iload_n hx hb dX9_value_1 rfl (lv_at hl 2 rfl) ?_
  obtain ⟨v2, hcl, hF⟩ := ob hF
  refine go_SI (r_S (rest := []) (As := [.int x1, .int x2]) C0 cb_X9_83 (tX9_isPlace l D cy ad hcl) (pre_S C0) hl dX9_value_2 rfl (Nat.le_of_ble_eq_true rfl) ⟨rfl, rfl⟩ ⟨Nat.le_of_ble_eq_true rfl, Nat.le_of_ble_eq_true rfl⟩ ⟨Nat.le_of_ble_eq_true rfl, Nat.le_of_ble_eq_true rfl⟩ rfl) ?_
  refine lv_if_ne (tgt := 10) hx hb dX9_value_5 (by decide) (fun hc => ?_) (fun hc => ?_)
  · have hF := oi_f hc hF
    refine lv_aload_n hx hb dX9_value_10 rfl (lv_at hl 0 rfl) ?_
    obtain ⟨_, hrec, hF⟩ := ob hF
    obtain ⟨v11, S11, hcl, hF⟩ := ob2 hF
    refine go_MP (r_V (rest := []) (As := []) C0 cb_X9_137 M.1 hrec (tX9_settledChart l D cy ad A hcl) (pre_R C0 M.1) hl dX9_value_11 rfl (Nat.le_of_ble_eq_true rfl) ⟨rfl, rfl⟩ ⟨Nat.le_of_ble_eq_true rfl, Nat.le_of_ble_eq_true rfl⟩ ⟨Nat.le_of_ble_eq_true rfl, Nat.le_of_ble_eq_true rfl⟩ rfl) M (fun H locs M => ?_)
    obtain ⟨v14, hv, hF⟩ := ob hF
    refine k_getP C0 M.1 hv fl_X9_232 dX9_value_14 ?_
    refine lv_bipush (v := (12 : Int32)) hx hb dX9_value_17 (by decide) ?_
    refine lv_iload_n hx hb dX9_value_19 rfl (lv_at hl 2 rfl) ?_
    refine lv_imul hx hb dX9_value_20 ?_
    refine lv_iload_n hx hb dX9_value_21 rfl (lv_at hl 1 rfl) ?_
    refine lv_iadd hx hb dX9_value_22 ?_
    obtain ⟨v23, hv, hF⟩ := ob hF
    refine k_ld C0 M.1 hv dX9_value_23 ?_
    obtain ⟨rfl, rfl⟩ := Prod.mk.inj (Option.some.inj hF)
    exact rt_MI C0 M hr dX9_value_24
  · have hF := oi_t hc hF
    refine lv_iconst (v := (-1 : Int32)) hx hb dX9_value_8 (by decide) ?_
    obtain ⟨rfl, rfl⟩ := Prod.mk.inj (Option.some.inj hF)
    exact rt_MI C0 M hr dX9_value_9
set_option maxHeartbeats 4000000 in
set_option maxRecDepth 100000 in
theorem tX9_value (l : Launch) (D : va_G) (cy : Nat → ClassId) (ad : Nat → Nat) (A : Nat → Prop) {S S' : MS} {a0 : Nat} {a1 : Int32} {a2 : Int32} {r : Int32} (h : fX9_value S a0 a1 a2 = some (r, S')) : Met l yX9_value [Cond.code yX9_value cX9_value 3 (some .int)] rmX9_value (PcR D cy ad A S [.ref (ad a0), .int a1, .int a2]) (QcM D cy ad A (m_n S) S' (some (.int r))) 0 0 A := by
  refine met_M (by decide +kernel) cw_X9_value (Nat.le_of_ble_eq_true rfl) ?_
  intro p e s m args below meth c ls C0 M hr hin hl
  have hl : lv_has ls 3 [(0, .ref (ad a0)), (1, .int a1), (2, .int a2)] := hl
  exact wX9_value_0 ad A C0 M hr h hl
set_option maxHeartbeats 4000000 in
set_option maxRecDepth 100000 in
theorem wX2_isInRegion_54 {p : Program} {l : Launch} {e : Env} {s : State} {m : MethodId} {args : Array Value} {below : List Frame} {meth : Method} {c : Code} {D : va_G} {cy : Nat → ClassId} (ad : Nat → Nat) (A : Nat → Prop) {r : Int32} {ls : Array Slot} {z0 : Int32} (C0 : CX p s m args meth c RX2 cX2_isInRegion 3 D cy) (hr : meth.sig.returnType = some .boolean) (hF : bX2_isInRegion_54 z0 = some r) (hl : lv_has ls 3 []) : W p l e rmX2_isInRegion s m args below meth c s.heap [] 0 0 (MQ below (QcS (some (.int r))) args s 0 0 (fun _ => False)) (F0 m 54 ls [.int z0]) := by
  unfold bX2_isInRegion_54 at hF
  obtain ⟨hx, hb, -, hown, -, hts, -⟩ := id C0
  obtain ⟨z54, hz, hF⟩ := ob hF
  have hz2 := (o_if hz).2
  refine vtopi hz2 ?_
  rw [hz2] at hz
  obtain rfl := (Option.some.inj hF)
  exact rt_SZ C0 hr hz dX2_isInRegion_54
set_option maxHeartbeats 4000000 in
set_option maxRecDepth 100000 in
theorem wX2_isInRegion_66 {p : Program} {l : Launch} {e : Env} {s : State} {m : MethodId} {args : Array Value} {below : List Frame} {meth : Method} {c : Code} {D : va_G} {cy : Nat → ClassId} (ad : Nat → Nat) (A : Nat → Prop) {r : Int32} {ls : Array Slot} {z0 : Int32} (C0 : CX p s m args meth c RX2 cX2_isInRegion 3 D cy) (hr : meth.sig.returnType = some .boolean) (hF : bX2_isInRegion_66 z0 = some r) (hl : lv_has ls 3 []) : W p l e rmX2_isInRegion s m args below meth c s.heap [] 0 0 (MQ below (QcS (some (.int r))) args s 0 0 (fun _ => False)) (F0 m 66 ls [.int z0]) := by
  unfold bX2_isInRegion_66 at hF
  obtain ⟨hx, hb, -, hown, -, hts, -⟩ := id C0
  obtain ⟨z66, hz, hF⟩ := ob hF
  have hz2 := (o_if hz).2
  refine vtopi hz2 ?_
  rw [hz2] at hz
  obtain rfl := (Option.some.inj hF)
  exact rt_SZ C0 hr hz dX2_isInRegion_66
set_option maxHeartbeats 4000000 in
set_option maxRecDepth 100000 in
theorem wX2_isInRegion_77 {p : Program} {l : Launch} {e : Env} {s : State} {m : MethodId} {args : Array Value} {below : List Frame} {meth : Method} {c : Code} {D : va_G} {cy : Nat → ClassId} (ad : Nat → Nat) (A : Nat → Prop) {r : Int32} {ls : Array Slot} {z0 : Int32} (C0 : CX p s m args meth c RX2 cX2_isInRegion 3 D cy) (hr : meth.sig.returnType = some .boolean) (hF : bX2_isInRegion_77 z0 = some r) (hl : lv_has ls 3 []) : W p l e rmX2_isInRegion s m args below meth c s.heap [] 0 0 (MQ below (QcS (some (.int r))) args s 0 0 (fun _ => False)) (F0 m 77 ls [.int z0]) := by
  unfold bX2_isInRegion_77 at hF
  obtain ⟨hx, hb, -, hown, -, hts, -⟩ := id C0
  obtain ⟨z77, hz, hF⟩ := ob hF
  have hz2 := (o_if hz).2
  refine vtopi hz2 ?_
  rw [hz2] at hz
  obtain rfl := (Option.some.inj hF)
  exact rt_SZ C0 hr hz dX2_isInRegion_77
set_option maxHeartbeats 4000000 in
set_option maxRecDepth 100000 in
theorem wX2_isInRegion_89 {p : Program} {l : Launch} {e : Env} {s : State} {m : MethodId} {args : Array Value} {below : List Frame} {meth : Method} {c : Code} {D : va_G} {cy : Nat → ClassId} (ad : Nat → Nat) (A : Nat → Prop) {r : Int32} {ls : Array Slot} {z0 : Int32} (C0 : CX p s m args meth c RX2 cX2_isInRegion 3 D cy) (hr : meth.sig.returnType = some .boolean) (hF : bX2_isInRegion_89 z0 = some r) (hl : lv_has ls 3 []) : W p l e rmX2_isInRegion s m args below meth c s.heap [] 0 0 (MQ below (QcS (some (.int r))) args s 0 0 (fun _ => False)) (F0 m 89 ls [.int z0]) := by
  unfold bX2_isInRegion_89 at hF
  obtain ⟨hx, hb, -, hown, -, hts, -⟩ := id C0
  obtain ⟨z89, hz, hF⟩ := ob hF
  have hz2 := (o_if hz).2
  refine vtopi hz2 ?_
  rw [hz2] at hz
  obtain rfl := (Option.some.inj hF)
  exact rt_SZ C0 hr hz dX2_isInRegion_89
set_option maxHeartbeats 4000000 in
set_option maxRecDepth 100000 in
theorem wX2_isInRegion_115 {p : Program} {l : Launch} {e : Env} {s : State} {m : MethodId} {args : Array Value} {below : List Frame} {meth : Method} {c : Code} {D : va_G} {cy : Nat → ClassId} (ad : Nat → Nat) (A : Nat → Prop) {r : Int32} {ls : Array Slot} {z0 : Int32} (C0 : CX p s m args meth c RX2 cX2_isInRegion 3 D cy) (hr : meth.sig.returnType = some .boolean) (hF : bX2_isInRegion_115 z0 = some r) (hl : lv_has ls 3 []) : W p l e rmX2_isInRegion s m args below meth c s.heap [] 0 0 (MQ below (QcS (some (.int r))) args s 0 0 (fun _ => False)) (F0 m 115 ls [.int z0]) := by
  unfold bX2_isInRegion_115 at hF
  obtain ⟨hx, hb, -, hown, -, hts, -⟩ := id C0
  obtain ⟨z115, hz, hF⟩ := ob hF
  have hz2 := (o_if hz).2
  refine vtopi hz2 ?_
  rw [hz2] at hz
  obtain rfl := (Option.some.inj hF)
  exact rt_SZ C0 hr hz dX2_isInRegion_115
set_option maxHeartbeats 4000000 in
set_option maxRecDepth 100000 in
theorem wX2_isInRegion_114 {p : Program} {l : Launch} {e : Env} {s : State} {m : MethodId} {args : Array Value} {below : List Frame} {meth : Method} {c : Code} {D : va_G} {cy : Nat → ClassId} (ad : Nat → Nat) (A : Nat → Prop) {r : Int32} {ls : Array Slot} (C0 : CX p s m args meth c RX2 cX2_isInRegion 3 D cy) (hr : meth.sig.returnType = some .boolean) (hF : bX2_isInRegion_114 = some r) (hl : lv_has ls 3 []) : W p l e rmX2_isInRegion s m args below meth c s.heap [] 0 0 (MQ below (QcS (some (.int r))) args s 0 0 (fun _ => False)) (F0 m 114 ls []) := by
  unfold bX2_isInRegion_114 at hF
  obtain ⟨hx, hb, -, hown, -, hts, -⟩ := id C0
  refine lv_iconst (v := (0 : Int32)) hx hb dX2_isInRegion_114 (by decide) ?_
  exact wX2_isInRegion_115 ad A C0 hr hF (lv_sub hl [] rfl)
set_option maxHeartbeats 4000000 in
set_option maxRecDepth 100000 in
theorem wX2_isInRegion_0 {p : Program} {l : Launch} {e : Env} {s : State} {m : MethodId} {args : Array Value} {below : List Frame} {meth : Method} {c : Code} {D : va_G} {cy : Nat → ClassId} (ad : Nat → Nat) (A : Nat → Prop) {r : Int32} {ls : Array Slot} {x0 : Int32} {x1 : Int32} {x2 : Int32} (C0 : CX p s m args meth c RX2 cX2_isInRegion 3 D cy) (hr : meth.sig.returnType = some .boolean) (hF : bX2_isInRegion_0 x0 x1 x2 = some r) (hl : lv_has ls 3 [(0, .int x0), (1, .int x1), (2, .int x2)]) : W p l e rmX2_isInRegion s m args below meth c s.heap [] 0 0 (MQ below (QcS (some (.int r))) args s 0 0 (fun _ => False)) (F0 m 0 ls []) := by
  unfold bX2_isInRegion_0 at hF
  obtain ⟨hx, hb, -, hown, -, hts, -⟩ := id C0
  refine lv_iload_n hx hb dX2_isInRegion_0 rfl (lv_at hl 0 rfl) ?_
  by_cases hc0 : x0 = (101 : Int32)
  · have hF := oi_t hc0 hF
    refine lv_lookup (tgt := 78) (off := 77) hx hb dX2_isInRegion_1 (by decide) (by rw [hc0]; rfl) (by decide) ?_
    refine lv_iload_n hx hb dX2_isInRegion_78 rfl (lv_at hl 1 rfl) ?_
    refine lv_bipush (v := (7 : Int32)) hx hb dX2_isInRegion_79 (by decide) ?_
    refine lv_icmp_le (tgt := 88) hx hb dX2_isInRegion_81 (by decide) (fun hc => ?_) (fun hc => ?_)
    · have hF := oi_t hc hF
      refine lv_iconst (v := (0 : Int32)) hx hb dX2_isInRegion_88 (by decide) ?_
      exact wX2_isInRegion_89 ad A C0 hr hF (lv_sub hl [] rfl)
    · have hF := oi_f hc hF
      refine lv_iconst (v := (1 : Int32)) hx hb dX2_isInRegion_84 (by decide) ?_
      refine lv_goto (tgt := 89) hx hb dX2_isInRegion_85 (by decide) ?_
      exact wX2_isInRegion_89 ad A C0 hr hF (lv_sub hl [] rfl)
  have hF := oi_f hc0 hF
  by_cases hc1 : x0 = (110 : Int32)
  · have hF := oi_t hc1 hF
    refine lv_lookup (tgt := 44) (off := 43) hx hb dX2_isInRegion_1 (by decide) (by rw [hc1]; rfl) (by decide) ?_
    refine lv_iload_n hx hb dX2_isInRegion_44 rfl (lv_at hl 2 rfl) ?_
    refine lv_iconst (v := (4 : Int32)) hx hb dX2_isInRegion_45 (by decide) ?_
    refine lv_icmp_ge (tgt := 53) hx hb dX2_isInRegion_46 (by decide) (fun hc => ?_) (fun hc => ?_)
    · have hF := oi_t hc hF
      refine lv_iconst (v := (0 : Int32)) hx hb dX2_isInRegion_53 (by decide) ?_
      exact wX2_isInRegion_54 ad A C0 hr hF (lv_sub hl [] rfl)
    · have hF := oi_f hc hF
      refine lv_iconst (v := (1 : Int32)) hx hb dX2_isInRegion_49 (by decide) ?_
      refine lv_goto (tgt := 54) hx hb dX2_isInRegion_50 (by decide) ?_
      exact wX2_isInRegion_54 ad A C0 hr hF (lv_sub hl [] rfl)
  have hF := oi_f hc1 hF
  by_cases hc2 : x0 = (115 : Int32)
  · have hF := oi_t hc2 hF
    refine lv_lookup (tgt := 55) (off := 54) hx hb dX2_isInRegion_1 (by decide) (by rw [hc2]; rfl) (by decide) ?_
    refine lv_iload_n hx hb dX2_isInRegion_55 rfl (lv_at hl 2 rfl) ?_
    refine lv_bipush (v := (7 : Int32)) hx hb dX2_isInRegion_56 (by decide) ?_
    refine lv_icmp_le (tgt := 65) hx hb dX2_isInRegion_58 (by decide) (fun hc => ?_) (fun hc => ?_)
    · have hF := oi_t hc hF
      refine lv_iconst (v := (0 : Int32)) hx hb dX2_isInRegion_65 (by decide) ?_
      exact wX2_isInRegion_66 ad A C0 hr hF (lv_sub hl [] rfl)
    · have hF := oi_f hc hF
      refine lv_iconst (v := (1 : Int32)) hx hb dX2_isInRegion_61 (by decide) ?_
      refine lv_goto (tgt := 66) hx hb dX2_isInRegion_62 (by decide) ?_
      exact wX2_isInRegion_66 ad A C0 hr hF (lv_sub hl [] rfl)
  have hF := oi_f hc2 hF
  by_cases hc3 : x0 = (119 : Int32)
  · have hF := oi_t hc3 hF
    refine lv_lookup (tgt := 67) (off := 66) hx hb dX2_isInRegion_1 (by decide) (by rw [hc3]; rfl) (by decide) ?_
    refine lv_iload_n hx hb dX2_isInRegion_67 rfl (lv_at hl 1 rfl) ?_
    refine lv_iconst (v := (4 : Int32)) hx hb dX2_isInRegion_68 (by decide) ?_
    refine lv_icmp_ge (tgt := 76) hx hb dX2_isInRegion_69 (by decide) (fun hc => ?_) (fun hc => ?_)
    · have hF := oi_t hc hF
      refine lv_iconst (v := (0 : Int32)) hx hb dX2_isInRegion_76 (by decide) ?_
      exact wX2_isInRegion_77 ad A C0 hr hF (lv_sub hl [] rfl)
    · have hF := oi_f hc hF
      refine lv_iconst (v := (1 : Int32)) hx hb dX2_isInRegion_72 (by decide) ?_
      refine lv_goto (tgt := 77) hx hb dX2_isInRegion_73 (by decide) ?_
      exact wX2_isInRegion_77 ad A C0 hr hF (lv_sub hl [] rfl)
  have hF := oi_f hc3 hF
  refine lv_lookup (tgt := 90) (off := 89) hx hb dX2_isInRegion_1 (by decide) (by have hd0 : ¬ x0.toInt = 101 := tne hc0 (by decide); have hd1 : ¬ x0.toInt = 110 := tne hc1 (by decide); have hd2 : ¬ x0.toInt = 115 := tne hc2 (by decide); have hd3 : ¬ x0.toInt = 119 := tne hc3 (by decide); simp [Op.lookupswitch.offset, hd0, hd1, hd2, hd3, Ne.symm hd0, Ne.symm hd1, Ne.symm hd2, Ne.symm hd3]) (by decide) ?_
  refine lv_iload_n hx hb dX2_isInRegion_90 rfl (lv_at hl 1 rfl) ?_
  refine lv_iconst (v := (4 : Int32)) hx hb dX2_isInRegion_91 (by decide) ?_
  refine lv_bipush (v := (7 : Int32)) hx hb dX2_isInRegion_92 (by decide) ?_
  obtain ⟨v94, hcl, hF⟩ := ob hF
  refine go_SI (r_SN (rest := []) (As := [.int x1, .int (4 : Int32), .int (7 : Int32)]) C0 cb_X2_48 (tX9_isWithin l D cy ad hcl) (pre_S C0) hl dX2_isInRegion_94 rfl (Nat.le_of_ble_eq_true rfl) ⟨rfl, rfl⟩ ⟨Nat.le_of_ble_eq_true rfl, Nat.le_of_ble_eq_true rfl⟩ ⟨Nat.le_of_ble_eq_true rfl, Nat.le_of_ble_eq_true rfl⟩ rfl) ?_
  refine lv_if_eq (tgt := 114) hx hb dX2_isInRegion_97 (by decide) (fun hc => ?_) (fun hc => ?_)
  · have hF := oi_t hc hF
    exact wX2_isInRegion_114 ad A C0 hr hF (lv_sub hl [] rfl)
  · have hF := oi_f hc hF
    refine lv_iload_n hx hb dX2_isInRegion_100 rfl (lv_at hl 2 rfl) ?_
    refine lv_iconst (v := (4 : Int32)) hx hb dX2_isInRegion_101 (by decide) ?_
    refine lv_bipush (v := (7 : Int32)) hx hb dX2_isInRegion_102 (by decide) ?_
    obtain ⟨v104, hcl, hF⟩ := ob hF
    refine go_SI (r_SN (rest := []) (As := [.int x2, .int (4 : Int32), .int (7 : Int32)]) C0 cb_X2_48 (tX9_isWithin l D cy ad hcl) (pre_S C0) hl dX2_isInRegion_104 rfl (Nat.le_of_ble_eq_true rfl) ⟨rfl, rfl⟩ ⟨Nat.le_of_ble_eq_true rfl, Nat.le_of_ble_eq_true rfl⟩ ⟨Nat.le_of_ble_eq_true rfl, Nat.le_of_ble_eq_true rfl⟩ rfl) ?_
    refine lv_if_eq (tgt := 114) hx hb dX2_isInRegion_107 (by decide) (fun hc => ?_) (fun hc => ?_)
    · have hF := oi_t hc hF
      exact wX2_isInRegion_114 ad A C0 hr hF (lv_sub hl [] rfl)
    · have hF := oi_f hc hF
      refine lv_iconst (v := (1 : Int32)) hx hb dX2_isInRegion_110 (by decide) ?_
      refine lv_goto (tgt := 115) hx hb dX2_isInRegion_111 (by decide) ?_
      exact wX2_isInRegion_115 ad A C0 hr hF (lv_sub hl [] rfl)
set_option maxHeartbeats 4000000 in
set_option maxRecDepth 100000 in
theorem tX2_isInRegion (l : Launch) (D : va_G) (cy : Nat → ClassId) (ad : Nat → Nat) {a0 : Int32} {a1 : Int32} {a2 : Int32} {r : Int32} (h : fX2_isInRegion a0 a1 a2 = some r) : Met l yX2_isInRegion [Cond.code yX2_isInRegion cX2_isInRegion 3 (some .boolean)] rmX2_isInRegion (PcS D cy [.int a0, .int a1, .int a2]) (QcS (some (.int r))) 0 0 (fun _ => False) := by
  refine met_S (by decide +kernel) cw_X2_isInRegion (Nat.le_of_ble_eq_true rfl) ?_
  intro p e s m args below meth c ls C0 hr hl
  have hl : lv_has ls 3 [(0, .int a0), (1, .int a1), (2, .int a2)] := hl
  exact wX2_isInRegion_0 ad (fun _ => False) C0 hr h hl
set_option maxHeartbeats 4000000 in
set_option maxRecDepth 100000 in
theorem wX2_isTrue_0 {p : Program} {l : Launch} {e : Env} {s : State} {m : MethodId} {args : Array Value} {below : List Frame} {meth : Method} {c : Code} {D : va_G} {cy : Nat → ClassId} (ad : Nat → Nat) (A : Nat → Prop) {S : MS} {r : Int32} {out : ((Nat × Int32 × Nat × Int32 × Int32) ⊕ Int32)} {ls : Array Slot} {x0 : Nat} {x1 : Int32} {x2 : Nat} (C0 : CX p s m args meth c RX2 cX2_isTrue 7 D cy) (M : MW D cy ad A S s.heap) (hr : meth.sig.returnType = some .boolean) (hF : bX2_isTrue_0 S x0 x1 x2 = some out) (hl : lv_has ls 7 [(0, .ref (ad x0)), (1, .int x1), (2, .ref (ad x2))]) (Kr : ∀ r9, out = .inr r9 → r9 = r) (Kh0 : ∀ (y0 : Nat) (y1 : Int32) (y2 : Nat) (y3 : Int32) (y4 : Int32), out = .inl (y0, y1, y2, y3, y4) → ∀ (ls1 : Array Slot), lv_has ls1 7 [(0, .ref (ad y0)), (1, .int y1), (2, .ref (ad y2)), (3, .int y3), (4, .int y4)] → W p l e rmX2_isTrue s m args below meth c s.heap [] 0 0 (MQ below (QcS (some (.int r))) args s 0 0 (fun _ => False)) (F0 m 5 ls1 [])) : W p l e rmX2_isTrue s m args below meth c s.heap [] 0 0 (MQ below (QcS (some (.int r))) args s 0 0 (fun _ => False)) (F0 m 0 ls []) := by
  unfold bX2_isTrue_0 at hF
  obtain ⟨hx, hb, -, hown, -, hts, -⟩ := id C0
  refine lv_iconst (v := (0 : Int32)) hx hb dX2_isTrue_0 (by decide) ?_
  refine lv_istore_n (lv' := [(3, .int (0 : Int32)), (0, .ref (ad x0)), (1, .int x1), (2, .ref (ad x2))]) hx hb dX2_isTrue_1 rfl hl (by decide) rfl (fun ls hl => ?_)
  refine lv_iconst (v := (0 : Int32)) hx hb dX2_isTrue_2 (by decide) ?_
  refine lv_istore (lv' := [(4, .int (0 : Int32)), (3, .int (0 : Int32)), (0, .ref (ad x0)), (1, .int x1), (2, .ref (ad x2))]) hx hb dX2_isTrue_3 hl (by decide) rfl (fun ls hl => ?_)
  exact Kh0 _ _ _ _ _ (Option.some.inj hF).symm _ (lv_sub hl [2, 3, 4, 1, 0] rfl)
set_option maxHeartbeats 4000000 in
set_option maxRecDepth 100000 in
theorem wX2_isTrue_105 {p : Program} {l : Launch} {e : Env} {s : State} {m : MethodId} {args : Array Value} {below : List Frame} {meth : Method} {c : Code} {D : va_G} {cy : Nat → ClassId} (ad : Nat → Nat) (A : Nat → Prop) {S : MS} {r : Int32} {out : ((Nat × Int32 × Nat × Int32 × Int32) ⊕ Int32)} {ls : Array Slot} {x0 : Nat} {x1 : Int32} {x2 : Nat} {x3 : Int32} {x4 : Int32} (C0 : CX p s m args meth c RX2 cX2_isTrue 7 D cy) (M : MW D cy ad A S s.heap) (hr : meth.sig.returnType = some .boolean) (hF : bX2_isTrue_105 S x0 x1 x2 x3 x4 = some out) (hl : lv_has ls 7 [(0, .ref (ad x0)), (1, .int x1), (2, .ref (ad x2)), (3, .int x3), (4, .int x4)]) (Kr : ∀ r9, out = .inr r9 → r9 = r) (Kh0 : ∀ (y0 : Nat) (y1 : Int32) (y2 : Nat) (y3 : Int32) (y4 : Int32), out = .inl (y0, y1, y2, y3, y4) → ∀ (ls1 : Array Slot), lv_has ls1 7 [(0, .ref (ad y0)), (1, .int y1), (2, .ref (ad y2)), (3, .int y3), (4, .int y4)] → W p l e rmX2_isTrue s m args below meth c s.heap [] 0 0 (MQ below (QcS (some (.int r))) args s 0 0 (fun _ => False)) (F0 m 5 ls1 [])) : W p l e rmX2_isTrue s m args below meth c s.heap [] 0 0 (MQ below (QcS (some (.int r))) args s 0 0 (fun _ => False)) (F0 m 105 ls []) := by
  unfold bX2_isTrue_105 at hF
  obtain ⟨hx, hb, -, hown, -, hts, -⟩ := id C0
  obtain ⟨v105, hv, hF⟩ := ob hF
  refine lv_iinc (v := v105) (lv' := [(4, .int v105), (0, .ref (ad x0)), (1, .int x1), (2, .ref (ad x2)), (3, .int x3)]) hx hb dX2_isTrue_105 hl (k := 4) rfl (by rw [← vtI hv]; rfl) (by decide) rfl (fun ls hl => ?_)
  refine lv_goto (tgt := 5) hx hb dX2_isTrue_108 (by decide) ?_
  exact Kh0 _ _ _ _ _ (Option.some.inj hF).symm _ (lv_sub hl [1, 2, 3, 4, 0] rfl)
set_option maxHeartbeats 4000000 in
set_option maxRecDepth 100000 in
theorem wX2_isTrue_96 {p : Program} {l : Launch} {e : Env} {s : State} {m : MethodId} {args : Array Value} {below : List Frame} {meth : Method} {c : Code} {D : va_G} {cy : Nat → ClassId} (ad : Nat → Nat) (A : Nat → Prop) {S : MS} {r : Int32} {out : ((Nat × Int32 × Nat × Int32 × Int32) ⊕ Int32)} {ls : Array Slot} {x0 : Nat} {x1 : Int32} {x2 : Nat} {x3 : Int32} {x4 : Int32} {z0 : Int32} (C0 : CX p s m args meth c RX2 cX2_isTrue 7 D cy) (M : MW D cy ad A S s.heap) (hr : meth.sig.returnType = some .boolean) (hF : bX2_isTrue_96 S x0 x1 x2 x3 x4 z0 = some out) (hl : lv_has ls 7 [(0, .ref (ad x0)), (1, .int x1), (2, .ref (ad x2)), (3, .int x3), (4, .int x4)]) (Kr : ∀ r9, out = .inr r9 → r9 = r) (Kh0 : ∀ (y0 : Nat) (y1 : Int32) (y2 : Nat) (y3 : Int32) (y4 : Int32), out = .inl (y0, y1, y2, y3, y4) → ∀ (ls1 : Array Slot), lv_has ls1 7 [(0, .ref (ad y0)), (1, .int y1), (2, .ref (ad y2)), (3, .int y3), (4, .int y4)] → W p l e rmX2_isTrue s m args below meth c s.heap [] 0 0 (MQ below (QcS (some (.int r))) args s 0 0 (fun _ => False)) (F0 m 5 ls1 [])) : W p l e rmX2_isTrue s m args below meth c s.heap [] 0 0 (MQ below (QcS (some (.int r))) args s 0 0 (fun _ => False)) (F0 m 96 ls [.int z0]) := by
  unfold bX2_isTrue_96 at hF
  obtain ⟨hx, hb, -, hown, -, hts, -⟩ := id C0
  refine lv_istore (lv' := [(6, .int z0), (0, .ref (ad x0)), (1, .int x1), (2, .ref (ad x2)), (3, .int x3), (4, .int x4)]) hx hb dX2_isTrue_96 hl (by decide) rfl (fun ls hl => ?_)
  refine lv_iload hx hb dX2_isTrue_98 (lv_at hl 0 rfl) ?_
  refine lv_if_ne (tgt := 105) hx hb dX2_isTrue_100 (by decide) (fun hc => ?_) (fun hc => ?_)
  · have hF := oi_f hc hF
    exact wX2_isTrue_105 ad A C0 M hr hF (lv_sub hl [1, 2, 3, 4, 5] rfl) Kr Kh0
  · have hF := oi_t hc hF
    refine lv_iconst (v := (0 : Int32)) hx hb dX2_isTrue_103 (by decide) ?_
    have hz : o_zb (0 : Int32) = some (0 : Int32) := rfl
    obtain rfl := (Kr _ (Option.some.inj hF).symm)
    exact rt_SZ C0 hr hz dX2_isTrue_104
set_option maxHeartbeats 4000000 in
set_option maxRecDepth 100000 in
theorem wX2_isTrue_5 {p : Program} {l : Launch} {e : Env} {s : State} {m : MethodId} {args : Array Value} {below : List Frame} {meth : Method} {c : Code} {D : va_G} {cy : Nat → ClassId} (ad : Nat → Nat) (A : Nat → Prop) {S : MS} {r : Int32} {out : ((Nat × Int32 × Nat × Int32 × Int32) ⊕ Int32)} {ls : Array Slot} {x0 : Nat} {x1 : Int32} {x2 : Nat} {x3 : Int32} {x4 : Int32} (C0 : CX p s m args meth c RX2 cX2_isTrue 7 D cy) (M : MW D cy ad A S s.heap) (hr : meth.sig.returnType = some .boolean) (hF : bX2_isTrue_5 S x0 x1 x2 x3 x4 = some out) (hl : lv_has ls 7 [(0, .ref (ad x0)), (1, .int x1), (2, .ref (ad x2)), (3, .int x3), (4, .int x4)]) (Kr : ∀ r9, out = .inr r9 → r9 = r) (Kh0 : ∀ (y0 : Nat) (y1 : Int32) (y2 : Nat) (y3 : Int32) (y4 : Int32), out = .inl (y0, y1, y2, y3, y4) → ∀ (ls1 : Array Slot), lv_has ls1 7 [(0, .ref (ad y0)), (1, .int y1), (2, .ref (ad y2)), (3, .int y3), (4, .int y4)] → W p l e rmX2_isTrue s m args below meth c s.heap [] 0 0 (MQ below (QcS (some (.int r))) args s 0 0 (fun _ => False)) (F0 m 5 ls1 [])) : W p l e rmX2_isTrue s m args below meth c s.heap [] 0 0 (MQ below (QcS (some (.int r))) args s 0 0 (fun _ => False)) (F0 m 5 ls []) := by
  unfold bX2_isTrue_5 at hF
  obtain ⟨hx, hb, -, hown, -, hts, -⟩ := id C0
  refine lv_iload hx hb dX2_isTrue_5 (lv_at hl 4 rfl) ?_
  refine lv_sipush (v := (144 : Int32)) hx hb dX2_isTrue_7 (by decide) ?_
  refine lv_icmp_ge (tgt := 111) hx hb dX2_isTrue_10 (by decide) (fun hc => ?_) (fun hc => ?_)
  · have hF := oi_t hc hF
    refine lv_iload_n hx hb dX2_isTrue_111 rfl (lv_at hl 3 rfl) ?_
    obtain ⟨z112, hz, hF⟩ := ob hF
    have hz2 := (o_if hz).2
    refine vtopi hz2 ?_
    rw [hz2] at hz
    obtain rfl := (Kr _ (Option.some.inj hF).symm)
    exact rt_SZ C0 hr hz dX2_isTrue_112
  · have hF := oi_f hc hF
    refine lv_aload_n hx hb dX2_isTrue_13 rfl (lv_at hl 2 rfl) ?_
    refine lv_iload hx hb dX2_isTrue_14 (lv_at hl 4 rfl) ?_
    obtain ⟨v16, hv, hF⟩ := ob hF
    refine k_ld C0 M hv dX2_isTrue_16 ?_
    refine lv_istore (lv' := [(5, .int v16), (0, .ref (ad x0)), (1, .int x1), (2, .ref (ad x2)), (3, .int x3), (4, .int x4)]) hx hb dX2_isTrue_17 hl (by decide) rfl (fun ls hl => ?_)
    refine lv_iload hx hb dX2_isTrue_19 (lv_at hl 0 rfl) ?_
    refine lv_bipush (v := (-9 : Int32)) hx hb dX2_isTrue_21 (by decide) ?_
    refine lv_icmp_eq (tgt := 105) hx hb dX2_isTrue_23 (by decide) (fun hc => ?_) (fun hc => ?_)
    · have hF := oi_t hc hF
      exact wX2_isTrue_105 ad A C0 M hr hF (lv_sub hl [1, 2, 3, 4, 5] rfl) Kr Kh0
    · have hF := oi_f hc hF
      refine lv_aload_n hx hb dX2_isTrue_26 rfl (lv_at hl 1 rfl) ?_
      obtain ⟨v27, hv, hF⟩ := ob hF
      refine k_getP C0 M hv fl_X2_15 dX2_isTrue_27 ?_
      refine lv_iload_n hx hb dX2_isTrue_30 rfl (lv_at hl 2 rfl) ?_
      obtain ⟨v31, hv, hF⟩ := ob hF
      refine k_ld C0 M hv dX2_isTrue_31 ?_
      refine lv_iload hx hb dX2_isTrue_32 (lv_at hl 5 rfl) ?_
      refine lv_bipush (v := (12 : Int32)) hx hb dX2_isTrue_34 (by decide) ?_
      refine lv_irem hx hb dX2_isTrue_36 (by decide) ?_
      refine lv_iload hx hb dX2_isTrue_37 (lv_at hl 5 rfl) ?_
      refine lv_bipush (v := (12 : Int32)) hx hb dX2_isTrue_39 (by decide) ?_
      refine lv_idiv hx hb dX2_isTrue_41 (by decide) ?_
      obtain ⟨v42, hcl, hF⟩ := ob hF
      refine go_SI (r_S (rest := []) (As := [.int v31, .int (x4 - x4 / (12 : Int32) * (12 : Int32)), .int (x4 / (12 : Int32))]) C0 cb_X2_56 (tX2_isInRegion l D cy ad hcl) (pre_S C0) hl dX2_isTrue_42 rfl (Nat.le_of_ble_eq_true rfl) ⟨rfl, rfl⟩ ⟨Nat.le_of_ble_eq_true rfl, Nat.le_of_ble_eq_true rfl⟩ ⟨Nat.le_of_ble_eq_true rfl, Nat.le_of_ble_eq_true rfl⟩ rfl) ?_
      refine lv_if_eq (tgt := 105) hx hb dX2_isTrue_45 (by decide) (fun hc => ?_) (fun hc => ?_)
      · have hF := oi_t hc hF
        exact wX2_isTrue_105 ad A C0 M hr hF (lv_sub hl [1, 2, 3, 4, 5] rfl) Kr Kh0
      · have hF := oi_f hc hF
        refine lv_iconst (v := (1 : Int32)) hx hb dX2_isTrue_48 (by decide) ?_
        refine lv_istore_n (lv' := [(3, .int (1 : Int32)), (5, .int v16), (0, .ref (ad x0)), (1, .int x1), (2, .ref (ad x2)), (4, .int x4)]) hx hb dX2_isTrue_49 rfl hl (by decide) rfl (fun ls hl => ?_)
        refine lv_aload_n hx hb dX2_isTrue_50 rfl (lv_at hl 2 rfl) ?_
        obtain ⟨v51, hv, hF⟩ := ob hF
        refine k_getP C0 M hv fl_X2_19 dX2_isTrue_51 ?_
        refine lv_iload_n hx hb dX2_isTrue_54 rfl (lv_at hl 3 rfl) ?_
        obtain ⟨v55, hv, hF⟩ := ob hF
        refine k_ld C0 M hv dX2_isTrue_55 ?_
        refine lv_bipush (v := (60 : Int32)) hx hb dX2_isTrue_56 (by decide) ?_
        refine lv_icmp_ne (tgt := 80) hx hb dX2_isTrue_58 (by decide) (fun hc => ?_) (fun hc => ?_)
        · have hF := oi_f hc hF
          refine lv_iload hx hb dX2_isTrue_80 (lv_at hl 1 rfl) ?_
          refine lv_aload_n hx hb dX2_isTrue_82 rfl (lv_at hl 2 rfl) ?_
          obtain ⟨v83, hv, hF⟩ := ob hF
          refine k_getP C0 M hv fl_X2_22 dX2_isTrue_83 ?_
          refine lv_iload_n hx hb dX2_isTrue_86 rfl (lv_at hl 3 rfl) ?_
          obtain ⟨v87, hv, hF⟩ := ob hF
          refine k_ld C0 M hv dX2_isTrue_87 ?_
          refine lv_icmp_le (tgt := 95) hx hb dX2_isTrue_88 (by decide) (fun hc => ?_) (fun hc => ?_)
          · have hF := oi_t hc hF
            refine lv_iconst (v := (0 : Int32)) hx hb dX2_isTrue_95 (by decide) ?_
            exact wX2_isTrue_96 ad A C0 M hr hF (lv_sub hl [2, 3, 4, 0, 5] rfl) Kr Kh0
          · have hF := oi_f hc hF
            refine lv_iconst (v := (1 : Int32)) hx hb dX2_isTrue_91 (by decide) ?_
            refine lv_goto (tgt := 96) hx hb dX2_isTrue_92 (by decide) ?_
            exact wX2_isTrue_96 ad A C0 M hr hF (lv_sub hl [2, 3, 4, 0, 5] rfl) Kr Kh0
        · have hF := oi_t hc hF
          refine lv_iload hx hb dX2_isTrue_61 (lv_at hl 1 rfl) ?_
          refine lv_aload_n hx hb dX2_isTrue_63 rfl (lv_at hl 2 rfl) ?_
          obtain ⟨v64, hv, hF⟩ := ob hF
          refine k_getP C0 M hv fl_X2_22 dX2_isTrue_64 ?_
          refine lv_iload_n hx hb dX2_isTrue_67 rfl (lv_at hl 3 rfl) ?_
          obtain ⟨v68, hv, hF⟩ := ob hF
          refine k_ld C0 M hv dX2_isTrue_68 ?_
          refine lv_icmp_ge (tgt := 76) hx hb dX2_isTrue_69 (by decide) (fun hc => ?_) (fun hc => ?_)
          · have hF := oi_t hc hF
            refine lv_iconst (v := (0 : Int32)) hx hb dX2_isTrue_76 (by decide) ?_
            refine lv_goto (tgt := 96) hx hb dX2_isTrue_77 (by decide) ?_
            exact wX2_isTrue_96 ad A C0 M hr hF (lv_sub hl [2, 3, 4, 0, 5] rfl) Kr Kh0
          · have hF := oi_f hc hF
            refine lv_iconst (v := (1 : Int32)) hx hb dX2_isTrue_72 (by decide) ?_
            refine lv_goto (tgt := 96) hx hb dX2_isTrue_73 (by decide) ?_
            exact wX2_isTrue_96 ad A C0 M hr hF (lv_sub hl [2, 3, 4, 0, 5] rfl) Kr Kh0
set_option maxHeartbeats 4000000 in
set_option maxRecDepth 100000 in
theorem tX2_isTrue (l : Launch) (D : va_G) (cy : Nat → ClassId) (ad : Nat → Nat) (A : Nat → Prop) {S : MS} {a0 : Nat} {a1 : Int32} {a2 : Nat} {r : Int32} (h : fX2_isTrue S a0 a1 a2 = some r) : Met l yX2_isTrue [Cond.code yX2_isTrue cX2_isTrue 7 (some .boolean)] rmX2_isTrue (PcR D cy ad A S [.ref (ad a0), .int a1, .ref (ad a2)]) (QcS (some (.int r))) 0 0 (fun _ => False) := by
  refine met_R (by decide +kernel) cw_X2_isTrue (Nat.le_of_ble_eq_true rfl) ?_
  intro p e s m args below meth c ls C0 M hr hl
  have hl : lv_has ls 7 [(0, .ref (ad a0)), (1, .int a1), (2, .ref (ad a2))] := hl
  have key := lim_walk (step := sX2_isTrue S) (fun (q : (Nat × Int32 × Nat × Int32 × Int32)) (r9 : Int32) => ∀ (r : Int32), r9 = r → ((∀ (y0 : Nat) (y1 : Int32) (y2 : Nat) (y3 : Int32) (y4 : Int32), q = (y0, y1, y2, y3, y4) → ∀ (ls1 : Array Slot), lv_has ls1 7 [(0, .ref (ad y0)), (1, .int y1), (2, .ref (ad y2)), (3, .int y3), (4, .int y4)] → W p l e rmX2_isTrue s m args below meth c s.heap [] 0 0 (MQ below (QcS (some (.int r))) args s 0 0 (fun _ => False)) (F0 m 5 ls1 [])))) ?_
  · unfold fX2_isTrue at h
    cases hs0 : bX2_isTrue_0 S a0 a1 a2 with
    | none => rw [hs0] at h; cases h
    | some out =>
      rw [hs0] at h
      refine wX2_isTrue_0 ad A C0 M hr hs0 hl (fun r9 hr9 => ?_) ?_
      · subst hr9; exact Option.some.inj h
      · intro y0 y1 y2 y3 y4 hq; subst hq; exact (key _ _ h _ rfl) _ _ _ _ _ rfl
  · intro q r9 out hst hre hin9
    intro r er; subst er
    refine ?_
    · intro y0 y1 y2 y3 y4 hq ls1 hl
      subst hq
      exact wX2_isTrue_5 ad A C0 M hr hst hl hre (fun k0 k1 k2 k3 k4 hk => (hin9 _ hk _ rfl) _ _ _ _ _ rfl)
set_option maxHeartbeats 4000000 in
set_option maxRecDepth 100000 in
theorem wX2_trueClauses_0 {p : Program} {l : Launch} {e : Env} {s : State} {m : MethodId} {args : Array Value} {below : List Frame} {meth : Method} {c : Code} {D : va_G} {cy : Nat → ClassId} (ad : Nat → Nat) (A : Nat → Prop) {S : MS} {r : Int32} {out : ((Nat × Nat × Int32 × Int32) ⊕ Int32)} {ls : Array Slot} {x0 : Nat} {x1 : Nat} (C0 : CX p s m args meth c RX2 cX2_trueClauses 4 D cy) (M : MW D cy ad A S s.heap) (hr : meth.sig.returnType = some .int) (hF : bX2_trueClauses_0 S x0 x1 = some out) (hl : lv_has ls 4 [(0, .ref (ad x0)), (1, .ref (ad x1))]) (Kr : ∀ r9, out = .inr r9 → r9 = r) (Kh0 : ∀ (y0 : Nat) (y1 : Nat) (y2 : Int32) (y3 : Int32), out = .inl (y0, y1, y2, y3) → ∀ (ls1 : Array Slot), lv_has ls1 4 [(0, .ref (ad y0)), (1, .ref (ad y1)), (2, .int y2), (3, .int y3)] → W p l e rmX2_trueClauses s m args below meth c s.heap [] 0 0 (MQ below (QcS (some (.int r))) args s 0 0 (fun _ => False)) (F0 m 4 ls1 [])) : W p l e rmX2_trueClauses s m args below meth c s.heap [] 0 0 (MQ below (QcS (some (.int r))) args s 0 0 (fun _ => False)) (F0 m 0 ls []) := by
  unfold bX2_trueClauses_0 at hF
  obtain ⟨hx, hb, -, hown, -, hts, -⟩ := id C0
  refine lv_iconst (v := (0 : Int32)) hx hb dX2_trueClauses_0 (by decide) ?_
  refine lv_istore_n (lv' := [(2, .int (0 : Int32)), (0, .ref (ad x0)), (1, .ref (ad x1))]) hx hb dX2_trueClauses_1 rfl hl (by decide) rfl (fun ls hl => ?_)
  refine lv_iconst (v := (0 : Int32)) hx hb dX2_trueClauses_2 (by decide) ?_
  refine lv_istore_n (lv' := [(3, .int (0 : Int32)), (2, .int (0 : Int32)), (0, .ref (ad x0)), (1, .ref (ad x1))]) hx hb dX2_trueClauses_3 rfl hl (by decide) rfl (fun ls hl => ?_)
  exact Kh0 _ _ _ _ (Option.some.inj hF).symm _ (lv_sub hl [2, 3, 1, 0] rfl)
set_option maxHeartbeats 4000000 in
set_option maxRecDepth 100000 in
theorem wX2_trueClauses_27 {p : Program} {l : Launch} {e : Env} {s : State} {m : MethodId} {args : Array Value} {below : List Frame} {meth : Method} {c : Code} {D : va_G} {cy : Nat → ClassId} (ad : Nat → Nat) (A : Nat → Prop) {S : MS} {r : Int32} {out : ((Nat × Nat × Int32 × Int32) ⊕ Int32)} {ls : Array Slot} {x0 : Nat} {x1 : Nat} {x2 : Int32} {x3 : Int32} (C0 : CX p s m args meth c RX2 cX2_trueClauses 4 D cy) (M : MW D cy ad A S s.heap) (hr : meth.sig.returnType = some .int) (hF : bX2_trueClauses_27 S x0 x1 x2 x3 = some out) (hl : lv_has ls 4 [(0, .ref (ad x0)), (1, .ref (ad x1)), (2, .int x2), (3, .int x3)]) (Kr : ∀ r9, out = .inr r9 → r9 = r) (Kh0 : ∀ (y0 : Nat) (y1 : Nat) (y2 : Int32) (y3 : Int32), out = .inl (y0, y1, y2, y3) → ∀ (ls1 : Array Slot), lv_has ls1 4 [(0, .ref (ad y0)), (1, .ref (ad y1)), (2, .int y2), (3, .int y3)] → W p l e rmX2_trueClauses s m args below meth c s.heap [] 0 0 (MQ below (QcS (some (.int r))) args s 0 0 (fun _ => False)) (F0 m 4 ls1 [])) : W p l e rmX2_trueClauses s m args below meth c s.heap [] 0 0 (MQ below (QcS (some (.int r))) args s 0 0 (fun _ => False)) (F0 m 27 ls []) := by
  unfold bX2_trueClauses_27 at hF
  obtain ⟨hx, hb, -, hown, -, hts, -⟩ := id C0
  obtain ⟨v27, hv, hF⟩ := ob hF
  refine lv_iinc (v := v27) (lv' := [(3, .int v27), (0, .ref (ad x0)), (1, .ref (ad x1)), (2, .int x2)]) hx hb dX2_trueClauses_27 hl (k := 3) rfl (by rw [← vtI hv]; rfl) (by decide) rfl (fun ls hl => ?_)
  refine lv_goto (tgt := 4) hx hb dX2_trueClauses_30 (by decide) ?_
  exact Kh0 _ _ _ _ (Option.some.inj hF).symm _ (lv_sub hl [1, 2, 3, 0] rfl)
set_option maxHeartbeats 4000000 in
set_option maxRecDepth 100000 in
theorem wX2_trueClauses_4 {p : Program} {l : Launch} {e : Env} {s : State} {m : MethodId} {args : Array Value} {below : List Frame} {meth : Method} {c : Code} {D : va_G} {cy : Nat → ClassId} (ad : Nat → Nat) (A : Nat → Prop) {S : MS} {r : Int32} {out : ((Nat × Nat × Int32 × Int32) ⊕ Int32)} {ls : Array Slot} {x0 : Nat} {x1 : Nat} {x2 : Int32} {x3 : Int32} (C0 : CX p s m args meth c RX2 cX2_trueClauses 4 D cy) (M : MW D cy ad A S s.heap) (hr : meth.sig.returnType = some .int) (hF : bX2_trueClauses_4 S x0 x1 x2 x3 = some out) (hl : lv_has ls 4 [(0, .ref (ad x0)), (1, .ref (ad x1)), (2, .int x2), (3, .int x3)]) (Kr : ∀ r9, out = .inr r9 → r9 = r) (Kh0 : ∀ (y0 : Nat) (y1 : Nat) (y2 : Int32) (y3 : Int32), out = .inl (y0, y1, y2, y3) → ∀ (ls1 : Array Slot), lv_has ls1 4 [(0, .ref (ad y0)), (1, .ref (ad y1)), (2, .int y2), (3, .int y3)] → W p l e rmX2_trueClauses s m args below meth c s.heap [] 0 0 (MQ below (QcS (some (.int r))) args s 0 0 (fun _ => False)) (F0 m 4 ls1 [])) : W p l e rmX2_trueClauses s m args below meth c s.heap [] 0 0 (MQ below (QcS (some (.int r))) args s 0 0 (fun _ => False)) (F0 m 4 ls []) := by
  unfold bX2_trueClauses_4 at hF
  obtain ⟨hx, hb, -, hown, -, hts, -⟩ := id C0
  refine lv_iload_n hx hb dX2_trueClauses_4 rfl (lv_at hl 3 rfl) ?_
  refine lv_aload_n hx hb dX2_trueClauses_5 rfl (lv_at hl 0 rfl) ?_
  obtain ⟨v6, hv, hF⟩ := ob hF
  refine k_getI C0 M hv fl_X2_9 dX2_trueClauses_6 ?_
  refine lv_icmp_ge (tgt := 33) hx hb dX2_trueClauses_9 (by decide) (fun hc => ?_) (fun hc => ?_)
  · have hF := oi_t hc hF
    refine lv_iload_n hx hb dX2_trueClauses_33 rfl (lv_at hl 2 rfl) ?_
    obtain rfl := (Kr _ (Option.some.inj hF).symm)
    exact rt_SI C0 hr dX2_trueClauses_34
  · have hF := oi_f hc hF
    refine lv_aload_n hx hb dX2_trueClauses_12 rfl (lv_at hl 0 rfl) ?_
    refine lv_iload_n hx hb dX2_trueClauses_13 rfl (lv_at hl 3 rfl) ?_
    refine lv_aload_n hx hb dX2_trueClauses_14 rfl (lv_at hl 1 rfl) ?_
    obtain ⟨_, hrec, hF⟩ := ob hF
    obtain ⟨v15, hcl, hF⟩ := ob hF
    refine go_SI (r_V (rest := []) (As := [.int x3, .ref (ad x1)]) C0 cb_X2_52 M hrec (tX2_isTrue l D cy ad A hcl) (pre_R C0 M) hl dX2_trueClauses_15 rfl (Nat.le_of_ble_eq_true rfl) ⟨rfl, rfl⟩ ⟨Nat.le_of_ble_eq_true rfl, Nat.le_of_ble_eq_true rfl⟩ ⟨Nat.le_of_ble_eq_true rfl, Nat.le_of_ble_eq_true rfl⟩ rfl) ?_
    refine lv_if_eq (tgt := 27) hx hb dX2_trueClauses_18 (by decide) (fun hc => ?_) (fun hc => ?_)
    · have hF := oi_t hc hF
      exact wX2_trueClauses_27 ad A C0 M hr hF (lv_sub hl [0, 1, 2, 3] rfl) Kr Kh0
    · have hF := oi_f hc hF
      refine lv_iload_n hx hb dX2_trueClauses_21 rfl (lv_at hl 2 rfl) ?_
      refine lv_iconst (v := (1 : Int32)) hx hb dX2_trueClauses_22 (by decide) ?_
      refine lv_iload_n hx hb dX2_trueClauses_23 rfl (lv_at hl 3 rfl) ?_
      refine lv_ishl hx hb dX2_trueClauses_24 ?_
      refine lv_ior hx hb dX2_trueClauses_25 ?_
      obtain ⟨v26, hv, hF⟩ := ob hF
      have hv := vtI hv
      refine vtopi hv ?_
      refine lv_istore_n (lv' := [(2, .int v26), (0, .ref (ad x0)), (1, .ref (ad x1)), (3, .int x3)]) hx hb dX2_trueClauses_26 rfl hl (by decide) rfl (fun ls hl => ?_)
      exact wX2_trueClauses_27 ad A C0 M hr hF (lv_sub hl [1, 2, 0, 3] rfl) Kr Kh0
set_option maxHeartbeats 4000000 in
set_option maxRecDepth 100000 in
theorem tX2_trueClauses (l : Launch) (D : va_G) (cy : Nat → ClassId) (ad : Nat → Nat) (A : Nat → Prop) {S : MS} {a0 : Nat} {a1 : Nat} {r : Int32} (h : fX2_trueClauses S a0 a1 = some r) : Met l yX2_trueClauses [Cond.code yX2_trueClauses cX2_trueClauses 4 (some .int)] rmX2_trueClauses (PcR D cy ad A S [.ref (ad a0), .ref (ad a1)]) (QcS (some (.int r))) 0 0 (fun _ => False) := by
  refine met_R (by decide +kernel) cw_X2_trueClauses (Nat.le_of_ble_eq_true rfl) ?_
  intro p e s m args below meth c ls C0 M hr hl
  have hl : lv_has ls 4 [(0, .ref (ad a0)), (1, .ref (ad a1))] := hl
  have key := lim_walk (step := sX2_trueClauses S) (fun (q : (Nat × Nat × Int32 × Int32)) (r9 : Int32) => ∀ (r : Int32), r9 = r → ((∀ (y0 : Nat) (y1 : Nat) (y2 : Int32) (y3 : Int32), q = (y0, y1, y2, y3) → ∀ (ls1 : Array Slot), lv_has ls1 4 [(0, .ref (ad y0)), (1, .ref (ad y1)), (2, .int y2), (3, .int y3)] → W p l e rmX2_trueClauses s m args below meth c s.heap [] 0 0 (MQ below (QcS (some (.int r))) args s 0 0 (fun _ => False)) (F0 m 4 ls1 [])))) ?_
  · unfold fX2_trueClauses at h
    cases hs0 : bX2_trueClauses_0 S a0 a1 with
    | none => rw [hs0] at h; cases h
    | some out =>
      rw [hs0] at h
      refine wX2_trueClauses_0 ad A C0 M hr hs0 hl (fun r9 hr9 => ?_) ?_
      · subst hr9; exact Option.some.inj h
      · intro y0 y1 y2 y3 hq; subst hq; exact (key _ _ h _ rfl) _ _ _ _ rfl
  · intro q r9 out hst hre hin9
    intro r er; subst er
    refine ?_
    · intro y0 y1 y2 y3 hq ls1 hl
      subst hq
      exact wX2_trueClauses_4 ad A C0 M hr hst hl hre (fun k0 k1 k2 k3 hk => (hin9 _ hk _ rfl) _ _ _ _ rfl)
set_option maxHeartbeats 4000000 in
set_option maxRecDepth 100000 in
theorem wX9_verified_0 {p : Program} {l : Launch} {e : Env} {s : State} {m : MethodId} {args : Array Value} {below : List Frame} {meth : Method} {c : Code} {D : va_G} {cy : Nat → ClassId} (ad : Nat → Nat) (A : Nat → Prop) {S : MS} {S' : MS} {H : Heap} {locs : List Loc} {n0 : Nat} {r : Int32} {ls : Array Slot} {x0 : Nat} {x1 : Int32} {x2 : Int32} (C0 : CX p s m args meth c RX9 cX9_verified 4 D cy) (M : ST D cy ad A s.heap (ZN n0 s.heap.size) S H locs) (hr : meth.sig.returnType = some .int) (hF : bX9_verified_0 S x0 x1 x2 = some (r, S')) (hl : lv_has ls 4 [(0, .ref (ad x0)), (1, .int x1), (2, .int x2)]) : W p l e rmX9_verified s m args below meth c H locs 0 0 (MQ below (QcM D cy ad A n0 S' (some (.int r))) args s 0 0 A) (F0 m 0 ls []) := by
  unfold bX9_verified_0 at hF
  obtain ⟨hx, hb, -, hown, -, hts, -⟩ := id C0
  refine lv_iload_n hx hb dX9_verified_0 rfl (lv_at hl 1 rfl) ?_
  refine lv_aload_n hx hb dX9_verified_1 rfl (lv_at hl 0 rfl) ?_
  obtain ⟨v2, hv, hF⟩ := ob hF
  refine k_getP C0 M.1 hv fl_X9_62 dX9_verified_2 ?_
  obtain ⟨_, hrec, hF⟩ := ob hF
  obtain ⟨v5, hcl, hF⟩ := ob hF
  refine go_SI (r_V (rest := [.int x1]) (As := []) C0 cb_X9_93 M.1 hrec (tJx4a65c_size_8abf5 l D cy ad A hcl) (pre_R C0 M.1) hl dX9_verified_5 rfl (Nat.le_of_ble_eq_true rfl) ⟨rfl, rfl⟩ ⟨Nat.le_of_ble_eq_true rfl, Nat.le_of_ble_eq_true rfl⟩ ⟨Nat.le_of_ble_eq_true rfl, Nat.le_of_ble_eq_true rfl⟩ rfl) ?_
  obtain ⟨v8, hcl, hF⟩ := ob hF
  refine go_SI (r_S (rest := []) (As := [.int x1, .int v5]) C0 cb_X9_79 (tX9_isBelow l D cy ad hcl) (pre_S C0) hl dX9_verified_8 rfl (Nat.le_of_ble_eq_true rfl) ⟨rfl, rfl⟩ ⟨Nat.le_of_ble_eq_true rfl, Nat.le_of_ble_eq_true rfl⟩ ⟨Nat.le_of_ble_eq_true rfl, Nat.le_of_ble_eq_true rfl⟩ rfl) ?_
  refine lv_if_ne (tgt := 16) hx hb dX9_verified_11 (by decide) (fun hc => ?_) (fun hc => ?_)
  · have hF := oi_f hc hF
    refine lv_aload_n hx hb dX9_verified_16 rfl (lv_at hl 0 rfl) ?_
    obtain ⟨v17, hv, hF⟩ := ob hF
    refine k_getP C0 M.1 hv fl_X9_62 dX9_verified_17 ?_
    refine lv_iload_n hx hb dX9_verified_20 rfl (lv_at hl 1 rfl) ?_
    obtain ⟨_, hrec, hF⟩ := ob hF
    obtain ⟨v21, hcl, hF⟩ := ob hF
    refine go_SP (r_V (rest := []) (As := [.int x1]) C0 cb_X9_113 M.1 hrec (tJx4a65c_get_915e3 l D cy ad A hcl) (pre_R C0 M.1) hl dX9_verified_21 rfl (Nat.le_of_ble_eq_true rfl) ⟨rfl, rfl⟩ ⟨Nat.le_of_ble_eq_true rfl, Nat.le_of_ble_eq_true rfl⟩ ⟨Nat.le_of_ble_eq_true rfl, Nat.le_of_ble_eq_true rfl⟩ rfl) ?_
    obtain ⟨v24, hv, hF⟩ := ob hF
    refine k_cast (C := RX2) (T := TX2) (N := 6) C0 M.1 hv (by decide) rfl (uw_of 920 (by decide +kernel) rfl) dX9_verified_24 ?_
    refine lv_astore_n (lv' := [(3, .ref (ad v24)), (0, .ref (ad x0)), (1, .int x1), (2, .int x2)]) hx hb dX9_verified_27 rfl hl (by decide) rfl (fun ls hl => ?_)
    refine lv_iload_n hx hb dX9_verified_28 rfl (lv_at hl 3 rfl) ?_
    by_cases hc0 : x2 = (0 : Int32)
    · have hF := oi_t hc0 hF
      refine lv_tableIn (tgt := 56) (off := 27) hx hb dX9_verified_29 (by rw [hc0]; decide) (by rw [hc0]; decide) (by rw [hc0]; rfl) (by decide) ?_
      refine lv_aload_n hx hb dX9_verified_56 rfl (lv_at hl 0 rfl) ?_
      obtain ⟨v57, hv, hF⟩ := ob hF
      refine k_getI C0 M.1 hv fl_X9_330 dX9_verified_57 ?_
      obtain ⟨rfl, rfl⟩ := Prod.mk.inj (Option.some.inj hF)
      exact rt_MI C0 M hr dX9_verified_60
    have hF := oi_f hc0 hF
    by_cases hc1 : x2 = (1 : Int32)
    · have hF := oi_t hc1 hF
      refine lv_tableIn (tgt := 61) (off := 32) hx hb dX9_verified_29 (by rw [hc1]; decide) (by rw [hc1]; decide) (by rw [hc1]; rfl) (by decide) ?_
      refine lv_aload_n hx hb dX9_verified_61 rfl (lv_at hl 0 rfl) ?_
      refine lv_aload_n hx hb dX9_verified_62 rfl (lv_at hl 1 rfl) ?_
      obtain ⟨_, hrec, hF⟩ := ob hF
      obtain ⟨v63, S63, hcl, hF⟩ := ob2 hF
      refine go_MP (r_V (rest := [.ref (ad v24)]) (As := []) C0 cb_X9_137 M.1 hrec (tX9_settledChart l D cy ad A hcl) (pre_R C0 M.1) hl dX9_verified_63 rfl (Nat.le_of_ble_eq_true rfl) ⟨rfl, rfl⟩ ⟨Nat.le_of_ble_eq_true rfl, Nat.le_of_ble_eq_true rfl⟩ ⟨Nat.le_of_ble_eq_true rfl, Nat.le_of_ble_eq_true rfl⟩ rfl) M (fun H locs M => ?_)
      obtain ⟨v66, hv, hF⟩ := ob hF
      refine k_getP C0 M.1 hv fl_X9_232 dX9_verified_66 ?_
      obtain ⟨_, hrec, hF⟩ := ob hF
      obtain ⟨v69, hcl, hF⟩ := ob hF
      refine go_SI (r_V (rest := []) (As := [.ref (ad v66)]) C0 cb_X9_333 M.1 hrec (tX2_trueClauses l D cy ad A hcl) (pre_R C0 M.1) hl dX9_verified_69 rfl (Nat.le_of_ble_eq_true rfl) ⟨rfl, rfl⟩ ⟨Nat.le_of_ble_eq_true rfl, Nat.le_of_ble_eq_true rfl⟩ ⟨Nat.le_of_ble_eq_true rfl, Nat.le_of_ble_eq_true rfl⟩ rfl) ?_
      obtain ⟨v72, hcl, hF⟩ := ob hF
      refine go_SI (r_S (rest := []) (As := [.int v69]) C0 cb_X9_208 (tJ6_bitCount_0f7a4 l D cy ad hcl) (pre_S C0) hl dX9_verified_72 rfl (Nat.le_of_ble_eq_true rfl) ⟨rfl, rfl⟩ ⟨Nat.le_of_ble_eq_true rfl, Nat.le_of_ble_eq_true rfl⟩ ⟨Nat.le_of_ble_eq_true rfl, Nat.le_of_ble_eq_true rfl⟩ rfl) ?_
      obtain ⟨rfl, rfl⟩ := Prod.mk.inj (Option.some.inj hF)
      exact rt_MI C0 M hr dX9_verified_75
    have hF := oi_f hc1 hF
    by_cases hc2 : x2 = (2 : Int32)
    · have hF := oi_t hc2 hF
      refine lv_tableIn (tgt := 76) (off := 47) hx hb dX9_verified_29 (by rw [hc2]; decide) (by rw [hc2]; decide) (by rw [hc2]; rfl) (by decide) ?_
      refine lv_aload_n hx hb dX9_verified_76 rfl (lv_at hl 0 rfl) ?_
      refine lv_aload_n hx hb dX9_verified_77 rfl (lv_at hl 1 rfl) ?_
      obtain ⟨_, hrec, hF⟩ := ob hF
      obtain ⟨v78, S78, hcl, hF⟩ := ob2 hF
      refine go_MP (r_V (rest := [.ref (ad v24)]) (As := []) C0 cb_X9_137 M.1 hrec (tX9_settledChart l D cy ad A hcl) (pre_R C0 M.1) hl dX9_verified_78 rfl (Nat.le_of_ble_eq_true rfl) ⟨rfl, rfl⟩ ⟨Nat.le_of_ble_eq_true rfl, Nat.le_of_ble_eq_true rfl⟩ ⟨Nat.le_of_ble_eq_true rfl, Nat.le_of_ble_eq_true rfl⟩ rfl) M (fun H locs M => ?_)
      obtain ⟨v81, hv, hF⟩ := ob hF
      refine k_getP C0 M.1 hv fl_X9_232 dX9_verified_81 ?_
      obtain ⟨_, hrec, hF⟩ := ob hF
      obtain ⟨v84, hcl, hF⟩ := ob hF
      refine go_SI (r_V (rest := []) (As := [.ref (ad v81)]) C0 cb_X9_333 M.1 hrec (tX2_trueClauses l D cy ad A hcl) (pre_R C0 M.1) hl dX9_verified_84 rfl (Nat.le_of_ble_eq_true rfl) ⟨rfl, rfl⟩ ⟨Nat.le_of_ble_eq_true rfl, Nat.le_of_ble_eq_true rfl⟩ ⟨Nat.le_of_ble_eq_true rfl, Nat.le_of_ble_eq_true rfl⟩ rfl) ?_
      obtain ⟨rfl, rfl⟩ := Prod.mk.inj (Option.some.inj hF)
      exact rt_MI C0 M hr dX9_verified_87
    have hF := oi_f hc2 hF
    refine lv_tableOut (tgt := 88) hx hb dX9_verified_29 (tsw (x := x2) (n := 3) (by decide) (fun k hk => by rcases (show k = 0 ∨ k = 1 ∨ k = 2 by omega) with rfl | rfl | rfl <;> first | exact hc0 | exact hc1 | exact hc2)) (by decide) ?_
    refine lv_bipush (v := (-2 : Int32)) hx hb dX9_verified_88 (by decide) ?_
    obtain ⟨rfl, rfl⟩ := Prod.mk.inj (Option.some.inj hF)
    exact rt_MI C0 M hr dX9_verified_90
  · have hF := oi_t hc hF
    refine lv_iconst (v := (-1 : Int32)) hx hb dX9_verified_14 (by decide) ?_
    obtain ⟨rfl, rfl⟩ := Prod.mk.inj (Option.some.inj hF)
    exact rt_MI C0 M hr dX9_verified_15
set_option maxHeartbeats 4000000 in
set_option maxRecDepth 100000 in
theorem tX9_verified (l : Launch) (D : va_G) (cy : Nat → ClassId) (ad : Nat → Nat) (A : Nat → Prop) {S S' : MS} {a0 : Nat} {a1 : Int32} {a2 : Int32} {r : Int32} (h : fX9_verified S a0 a1 a2 = some (r, S')) : Met l yX9_verified [Cond.code yX9_verified cX9_verified 4 (some .int)] rmX9_verified (PcR D cy ad A S [.ref (ad a0), .int a1, .int a2]) (QcM D cy ad A (m_n S) S' (some (.int r))) 0 0 A := by
  refine met_M (by decide +kernel) cw_X9_verified (Nat.le_of_ble_eq_true rfl) ?_
  intro p e s m args below meth c ls C0 M hr hin hl
  have hl : lv_has ls 4 [(0, .ref (ad a0)), (1, .int a1), (2, .int a2)] := hl
  exact wX9_verified_0 ad A C0 M hr h hl
set_option maxHeartbeats 4000000 in
set_option maxRecDepth 100000 in
theorem wX9_view_20 {p : Program} {l : Launch} {e : Env} {s : State} {m : MethodId} {args : Array Value} {below : List Frame} {meth : Method} {c : Code} {D : va_G} {cy : Nat → ClassId} (ad : Nat → Nat) (A : Nat → Prop) {S : MS} {S' : MS} {H : Heap} {locs : List Loc} {n0 : Nat} {r : Int32} {ls : Array Slot} (C0 : CX p s m args meth c RX9 cX9_view 3 D cy) (M : ST D cy ad A s.heap (ZN n0 s.heap.size) S H locs) (hr : meth.sig.returnType = some .int) (hF : bX9_view_20 S = some (r, S')) (hl : lv_has ls 3 []) : W p l e rmX9_view s m args below meth c H locs 0 0 (MQ below (QcM D cy ad A n0 S' (some (.int r))) args s 0 0 A) (F0 m 20 ls []) := by
  unfold bX9_view_20 at hF
  obtain ⟨hx, hb, -, hown, -, hts, -⟩ := id C0
  refine lv_bipush (v := (-2 : Int32)) hx hb dX9_view_20 (by decide) ?_
  obtain ⟨rfl, rfl⟩ := Prod.mk.inj (Option.some.inj hF)
  exact rt_MI C0 M hr dX9_view_22
set_option maxHeartbeats 4000000 in
set_option maxRecDepth 100000 in
theorem wX9_view_0 {p : Program} {l : Launch} {e : Env} {s : State} {m : MethodId} {args : Array Value} {below : List Frame} {meth : Method} {c : Code} {D : va_G} {cy : Nat → ClassId} (ad : Nat → Nat) (A : Nat → Prop) {S : MS} {S' : MS} {H : Heap} {locs : List Loc} {n0 : Nat} {r : Int32} {ls : Array Slot} {x0 : Nat} {x1 : Int32} {x2 : Int32} (C0 : CX p s m args meth c RX9 cX9_view 3 D cy) (M : ST D cy ad A s.heap (ZN n0 s.heap.size) S H locs) (hr : meth.sig.returnType = some .int) (hF : bX9_view_0 S x0 x1 x2 = some (r, S')) (hl : lv_has ls 3 [(0, .ref (ad x0)), (1, .int x1), (2, .int x2)]) : W p l e rmX9_view s m args below meth c H locs 0 0 (MQ below (QcM D cy ad A n0 S' (some (.int r))) args s 0 0 A) (F0 m 0 ls []) := by
  unfold bX9_view_0 at hF
  obtain ⟨hx, hb, -, hown, -, hts, -⟩ := id C0
  refine lv_iload_n hx hb dX9_view_0 rfl (lv_at hl 1 rfl) ?_
  refine lv_iconst (v := (0 : Int32)) hx hb dX9_view_1 (by decide) ?_
  refine lv_bipush (v := (99 : Int32)) hx hb dX9_view_2 (by decide) ?_
  obtain ⟨v4, hcl, hF⟩ := ob hF
  refine go_SI (r_S (rest := []) (As := [.int x1, .int (0 : Int32), .int (99 : Int32)]) C0 cb_X9_86 (tX9_isWithin l D cy ad hcl) (pre_S C0) hl dX9_view_4 rfl (Nat.le_of_ble_eq_true rfl) ⟨rfl, rfl⟩ ⟨Nat.le_of_ble_eq_true rfl, Nat.le_of_ble_eq_true rfl⟩ ⟨Nat.le_of_ble_eq_true rfl, Nat.le_of_ble_eq_true rfl⟩ rfl) ?_
  refine lv_if_eq (tgt := 20) hx hb dX9_view_7 (by decide) (fun hc => ?_) (fun hc => ?_)
  · have hF := oi_t hc hF
    exact wX9_view_20 ad A C0 M hr hF (lv_sub hl [] rfl)
  · have hF := oi_f hc hF
    refine lv_iload_n hx hb dX9_view_10 rfl (lv_at hl 2 rfl) ?_
    refine lv_iconst (v := (0 : Int32)) hx hb dX9_view_11 (by decide) ?_
    refine lv_bipush (v := (99 : Int32)) hx hb dX9_view_12 (by decide) ?_
    obtain ⟨v14, hcl, hF⟩ := ob hF
    refine go_SI (r_S (rest := []) (As := [.int x2, .int (0 : Int32), .int (99 : Int32)]) C0 cb_X9_86 (tX9_isWithin l D cy ad hcl) (pre_S C0) hl dX9_view_14 rfl (Nat.le_of_ble_eq_true rfl) ⟨rfl, rfl⟩ ⟨Nat.le_of_ble_eq_true rfl, Nat.le_of_ble_eq_true rfl⟩ ⟨Nat.le_of_ble_eq_true rfl, Nat.le_of_ble_eq_true rfl⟩ rfl) ?_
    refine lv_if_ne (tgt := 23) hx hb dX9_view_17 (by decide) (fun hc => ?_) (fun hc => ?_)
    · have hF := oi_f hc hF
      refine lv_aload_n hx hb dX9_view_23 rfl (lv_at hl 0 rfl) ?_
      obtain ⟨v24, hv, hF⟩ := ob hF
      refine k_getP C0 M.1 hv fl_X9_12 dX9_view_24 ?_
      refine lv_iload_n hx hb dX9_view_27 rfl (lv_at hl 1 rfl) ?_
      obtain ⟨S28, hv, hF⟩ := ob hF
      refine k_sI C0 M hv fl_X9_201 dX9_view_28 (fun H locs M => ?_)
      refine lv_aload_n hx hb dX9_view_31 rfl (lv_at hl 0 rfl) ?_
      obtain ⟨v32, hv, hF⟩ := ob hF
      refine k_getP C0 M.1 hv fl_X9_12 dX9_view_32 ?_
      refine lv_iload_n hx hb dX9_view_35 rfl (lv_at hl 2 rfl) ?_
      obtain ⟨S36, hv, hF⟩ := ob hF
      refine k_sI C0 M hv fl_X9_202 dX9_view_36 (fun H locs M => ?_)
      refine lv_aload_n hx hb dX9_view_39 rfl (lv_at hl 0 rfl) ?_
      obtain ⟨_, hrec, hF⟩ := ob hF
      obtain ⟨S40, hcl, hF⟩ := ob hF
      refine go_MV (r_V (rest := []) (As := []) C0 cb_X9_106 M.1 hrec (tX9_lookAgain l D cy ad A hcl) (pre_R C0 M.1) hl dX9_view_40 rfl (Nat.le_of_ble_eq_true rfl) ⟨rfl, rfl⟩ ⟨Nat.le_of_ble_eq_true rfl, Nat.le_of_ble_eq_true rfl⟩ ⟨Nat.le_of_ble_eq_true rfl, Nat.le_of_ble_eq_true rfl⟩ rfl) M (fun H locs M => ?_)
      refine lv_aload_n hx hb dX9_view_43 rfl (lv_at hl 0 rfl) ?_
      obtain ⟨v44, hv, hF⟩ := ob hF
      refine k_getP C0 M.1 hv fl_X9_12 dX9_view_44 ?_
      obtain ⟨v47, hv, hF⟩ := ob hF
      refine k_getI C0 M.1 hv fl_X9_205 dX9_view_47 ?_
      obtain ⟨v50, hcl, hF⟩ := ob hF
      refine go_SI (r_S (rest := []) (As := [.int v47]) C0 cb_X9_208 (tJ6_bitCount_0f7a4 l D cy ad hcl) (pre_S C0) hl dX9_view_50 rfl (Nat.le_of_ble_eq_true rfl) ⟨rfl, rfl⟩ ⟨Nat.le_of_ble_eq_true rfl, Nat.le_of_ble_eq_true rfl⟩ ⟨Nat.le_of_ble_eq_true rfl, Nat.le_of_ble_eq_true rfl⟩ rfl) ?_
      obtain ⟨rfl, rfl⟩ := Prod.mk.inj (Option.some.inj hF)
      exact rt_MI C0 M hr dX9_view_53
    · have hF := oi_t hc hF
      exact wX9_view_20 ad A C0 M hr hF (lv_sub hl [] rfl)
set_option maxHeartbeats 4000000 in
set_option maxRecDepth 100000 in
theorem tX9_view (l : Launch) (D : va_G) (cy : Nat → ClassId) (ad : Nat → Nat) (A : Nat → Prop) {S S' : MS} {a0 : Nat} {a1 : Int32} {a2 : Int32} {r : Int32} (h : fX9_view S a0 a1 a2 = some (r, S')) : Met l yX9_view [Cond.code yX9_view cX9_view 3 (some .int)] rmX9_view (PcR D cy ad A S [.ref (ad a0), .int a1, .int a2]) (QcM D cy ad A (m_n S) S' (some (.int r))) 0 0 A := by
  refine met_M (by decide +kernel) cw_X9_view (Nat.le_of_ble_eq_true rfl) ?_
  intro p e s m args below meth c ls C0 M hr hin hl
  have hl : lv_has ls 3 [(0, .ref (ad a0)), (1, .int a1), (2, .int a2)] := hl
  exact wX9_view_0 ad A C0 M hr h hl
set_option maxHeartbeats 4000000 in
set_option maxRecDepth 100000 in
theorem wX8_countRight_0 {p : Program} {l : Launch} {e : Env} {s : State} {m : MethodId} {args : Array Value} {below : List Frame} {meth : Method} {c : Code} {D : va_G} {cy : Nat → ClassId} (ad : Nat → Nat) (A : Nat → Prop) {S : MS} {r : Int32} {out : ((Nat × Int32 × Int32 × Int32 × Int32) ⊕ Int32)} {ls : Array Slot} {x0 : Nat} {x1 : Int32} (C0 : CX p s m args meth c RX8 cX8_countRight 5 D cy) (M : MW D cy ad A S s.heap) (hr : meth.sig.returnType = some .int) (hF : bX8_countRight_0 S x0 x1 = some out) (hl : lv_has ls 5 [(0, .ref (ad x0)), (1, .int x1)]) (Kr : ∀ r9, out = .inr r9 → r9 = r) (Kh0 : ∀ (y0 : Nat) (y1 : Int32) (y2 : Int32) (y3 : Int32) (y4 : Int32), out = .inl (y0, y1, y2, y3, y4) → ∀ (ls1 : Array Slot), lv_has ls1 5 [(0, .ref (ad y0)), (1, .int y1), (2, .int y2), (3, .int y3), (4, .int y4)] → W p l e rmX8_countRight s m args below meth c s.heap [] 0 0 (MQ below (QcS (some (.int r))) args s 0 0 (fun _ => False)) (F0 m 11 ls1 [])) : W p l e rmX8_countRight s m args below meth c s.heap [] 0 0 (MQ below (QcS (some (.int r))) args s 0 0 (fun _ => False)) (F0 m 0 ls []) := by
  unfold bX8_countRight_0 at hF
  obtain ⟨hx, hb, -, hown, -, hts, -⟩ := id C0
  refine lv_iconst (v := (0 : Int32)) hx hb dX8_countRight_0 (by decide) ?_
  refine lv_istore_n (lv' := [(2, .int (0 : Int32)), (0, .ref (ad x0)), (1, .int x1)]) hx hb dX8_countRight_1 rfl hl (by decide) rfl (fun ls hl => ?_)
  refine lv_aload_n hx hb dX8_countRight_2 rfl (lv_at hl 1 rfl) ?_
  refine lv_iload_n hx hb dX8_countRight_3 rfl (lv_at hl 2 rfl) ?_
  obtain ⟨_, hrec, hF⟩ := ob hF
  obtain ⟨v4, hcl, hF⟩ := ob hF
  refine go_SI (r_V (rest := []) (As := [.int x1]) C0 cb_X8_35 M hrec (tX8_countFillings l D cy ad A hcl) (pre_R C0 M) hl dX8_countRight_4 rfl (Nat.le_of_ble_eq_true rfl) ⟨rfl, rfl⟩ ⟨Nat.le_of_ble_eq_true rfl, Nat.le_of_ble_eq_true rfl⟩ ⟨Nat.le_of_ble_eq_true rfl, Nat.le_of_ble_eq_true rfl⟩ rfl) ?_
  refine lv_istore_n (lv' := [(3, .int v4), (2, .int (0 : Int32)), (0, .ref (ad x0)), (1, .int x1)]) hx hb dX8_countRight_7 rfl hl (by decide) rfl (fun ls hl => ?_)
  refine lv_iconst (v := (0 : Int32)) hx hb dX8_countRight_8 (by decide) ?_
  refine lv_istore (lv' := [(4, .int (0 : Int32)), (3, .int v4), (2, .int (0 : Int32)), (0, .ref (ad x0)), (1, .int x1)]) hx hb dX8_countRight_9 hl (by decide) rfl (fun ls hl => ?_)
  exact Kh0 _ _ _ _ _ (Option.some.inj hF).symm _ (lv_sub hl [3, 4, 2, 1, 0] rfl)
set_option maxHeartbeats 4000000 in
set_option maxRecDepth 100000 in
theorem wX8_countRight_32 {p : Program} {l : Launch} {e : Env} {s : State} {m : MethodId} {args : Array Value} {below : List Frame} {meth : Method} {c : Code} {D : va_G} {cy : Nat → ClassId} (ad : Nat → Nat) (A : Nat → Prop) {S : MS} {r : Int32} {out : ((Nat × Int32 × Int32 × Int32 × Int32) ⊕ Int32)} {ls : Array Slot} {x0 : Nat} {x1 : Int32} {x2 : Int32} {x3 : Int32} {x4 : Int32} (C0 : CX p s m args meth c RX8 cX8_countRight 5 D cy) (M : MW D cy ad A S s.heap) (hr : meth.sig.returnType = some .int) (hF : bX8_countRight_32 S x0 x1 x2 x3 x4 = some out) (hl : lv_has ls 5 [(0, .ref (ad x0)), (1, .int x1), (2, .int x2), (3, .int x3), (4, .int x4)]) (Kr : ∀ r9, out = .inr r9 → r9 = r) (Kh0 : ∀ (y0 : Nat) (y1 : Int32) (y2 : Int32) (y3 : Int32) (y4 : Int32), out = .inl (y0, y1, y2, y3, y4) → ∀ (ls1 : Array Slot), lv_has ls1 5 [(0, .ref (ad y0)), (1, .int y1), (2, .int y2), (3, .int y3), (4, .int y4)] → W p l e rmX8_countRight s m args below meth c s.heap [] 0 0 (MQ below (QcS (some (.int r))) args s 0 0 (fun _ => False)) (F0 m 11 ls1 [])) : W p l e rmX8_countRight s m args below meth c s.heap [] 0 0 (MQ below (QcS (some (.int r))) args s 0 0 (fun _ => False)) (F0 m 32 ls []) := by
  unfold bX8_countRight_32 at hF
  obtain ⟨hx, hb, -, hown, -, hts, -⟩ := id C0
  obtain ⟨v32, hv, hF⟩ := ob hF
  refine lv_iinc (v := v32) (lv' := [(4, .int v32), (0, .ref (ad x0)), (1, .int x1), (2, .int x2), (3, .int x3)]) hx hb dX8_countRight_32 hl (k := 4) rfl (by rw [← vtI hv]; rfl) (by decide) rfl (fun ls hl => ?_)
  refine lv_goto (tgt := 11) hx hb dX8_countRight_35 (by decide) ?_
  exact Kh0 _ _ _ _ _ (Option.some.inj hF).symm _ (lv_sub hl [1, 2, 3, 4, 0] rfl)
set_option maxHeartbeats 4000000 in
set_option maxRecDepth 100000 in
theorem wX8_countRight_11 {p : Program} {l : Launch} {e : Env} {s : State} {m : MethodId} {args : Array Value} {below : List Frame} {meth : Method} {c : Code} {D : va_G} {cy : Nat → ClassId} (ad : Nat → Nat) (A : Nat → Prop) {S : MS} {r : Int32} {out : ((Nat × Int32 × Int32 × Int32 × Int32) ⊕ Int32)} {ls : Array Slot} {x0 : Nat} {x1 : Int32} {x2 : Int32} {x3 : Int32} {x4 : Int32} (C0 : CX p s m args meth c RX8 cX8_countRight 5 D cy) (M : MW D cy ad A S s.heap) (hr : meth.sig.returnType = some .int) (hF : bX8_countRight_11 S x0 x1 x2 x3 x4 = some out) (hl : lv_has ls 5 [(0, .ref (ad x0)), (1, .int x1), (2, .int x2), (3, .int x3), (4, .int x4)]) (Kr : ∀ r9, out = .inr r9 → r9 = r) (Kh0 : ∀ (y0 : Nat) (y1 : Int32) (y2 : Int32) (y3 : Int32) (y4 : Int32), out = .inl (y0, y1, y2, y3, y4) → ∀ (ls1 : Array Slot), lv_has ls1 5 [(0, .ref (ad y0)), (1, .int y1), (2, .int y2), (3, .int y3), (4, .int y4)] → W p l e rmX8_countRight s m args below meth c s.heap [] 0 0 (MQ below (QcS (some (.int r))) args s 0 0 (fun _ => False)) (F0 m 11 ls1 [])) : W p l e rmX8_countRight s m args below meth c s.heap [] 0 0 (MQ below (QcS (some (.int r))) args s 0 0 (fun _ => False)) (F0 m 11 ls []) := by
  unfold bX8_countRight_11 at hF
  obtain ⟨hx, hb, -, hown, -, hts, -⟩ := id C0
  refine lv_iload hx hb dX8_countRight_11 (lv_at hl 4 rfl) ?_
  refine lv_iload_n hx hb dX8_countRight_13 rfl (lv_at hl 3 rfl) ?_
  refine lv_icmp_ge (tgt := 38) hx hb dX8_countRight_14 (by decide) (fun hc => ?_) (fun hc => ?_)
  · have hF := oi_t hc hF
    refine lv_iload_n hx hb dX8_countRight_38 rfl (lv_at hl 2 rfl) ?_
    obtain rfl := (Kr _ (Option.some.inj hF).symm)
    exact rt_SI C0 hr dX8_countRight_39
  · have hF := oi_f hc hF
    refine lv_aload_n hx hb dX8_countRight_17 rfl (lv_at hl 0 rfl) ?_
    refine lv_iload_n hx hb dX8_countRight_18 rfl (lv_at hl 1 rfl) ?_
    refine lv_iload hx hb dX8_countRight_19 (lv_at hl 4 rfl) ?_
    obtain ⟨_, hrec, hF⟩ := ob hF
    obtain ⟨v21, hcl, hF⟩ := ob hF
    refine go_SI (r_V (rest := []) (As := [.int x1, .int x4]) C0 cb_X8_38 M hrec (tX8_filled l D cy ad A hcl) (pre_R C0 M) hl dX8_countRight_21 rfl (Nat.le_of_ble_eq_true rfl) ⟨rfl, rfl⟩ ⟨Nat.le_of_ble_eq_true rfl, Nat.le_of_ble_eq_true rfl⟩ ⟨Nat.le_of_ble_eq_true rfl, Nat.le_of_ble_eq_true rfl⟩ rfl) ?_
    refine lv_bipush (v := (-9 : Int32)) hx hb dX8_countRight_24 (by decide) ?_
    refine lv_icmp_eq (tgt := 32) hx hb dX8_countRight_26 (by decide) (fun hc => ?_) (fun hc => ?_)
    · have hF := oi_t hc hF
      exact wX8_countRight_32 ad A C0 M hr hF (lv_sub hl [0, 1, 2, 3, 4] rfl) Kr Kh0
    · have hF := oi_f hc hF
      obtain ⟨v29, hv, hF⟩ := ob hF
      refine lv_iinc (v := v29) (lv' := [(2, .int v29), (0, .ref (ad x0)), (1, .int x1), (3, .int x3), (4, .int x4)]) hx hb dX8_countRight_29 hl (k := 2) rfl (by rw [← vtI hv]; rfl) (by decide) rfl (fun ls hl => ?_)
      exact wX8_countRight_32 ad A C0 M hr hF (lv_sub hl [1, 2, 0, 3, 4] rfl) Kr Kh0
set_option maxHeartbeats 4000000 in
set_option maxRecDepth 100000 in
theorem tX8_countRight (l : Launch) (D : va_G) (cy : Nat → ClassId) (ad : Nat → Nat) (A : Nat → Prop) {S : MS} {a0 : Nat} {a1 : Int32} {r : Int32} (h : fX8_countRight S a0 a1 = some r) : Met l yX8_countRight [Cond.code yX8_countRight cX8_countRight 5 (some .int)] rmX8_countRight (PcR D cy ad A S [.ref (ad a0), .int a1]) (QcS (some (.int r))) 0 0 (fun _ => False) := by
  refine met_R (by decide +kernel) cw_X8_countRight (Nat.le_of_ble_eq_true rfl) ?_
  intro p e s m args below meth c ls C0 M hr hl
  have hl : lv_has ls 5 [(0, .ref (ad a0)), (1, .int a1)] := hl
  have key := lim_walk (step := sX8_countRight S) (fun (q : (Nat × Int32 × Int32 × Int32 × Int32)) (r9 : Int32) => ∀ (r : Int32), r9 = r → ((∀ (y0 : Nat) (y1 : Int32) (y2 : Int32) (y3 : Int32) (y4 : Int32), q = (y0, y1, y2, y3, y4) → ∀ (ls1 : Array Slot), lv_has ls1 5 [(0, .ref (ad y0)), (1, .int y1), (2, .int y2), (3, .int y3), (4, .int y4)] → W p l e rmX8_countRight s m args below meth c s.heap [] 0 0 (MQ below (QcS (some (.int r))) args s 0 0 (fun _ => False)) (F0 m 11 ls1 [])))) ?_
  · unfold fX8_countRight at h
    cases hs0 : bX8_countRight_0 S a0 a1 with
    | none => rw [hs0] at h; cases h
    | some out =>
      rw [hs0] at h
      refine wX8_countRight_0 ad A C0 M hr hs0 hl (fun r9 hr9 => ?_) ?_
      · subst hr9; exact Option.some.inj h
      · intro y0 y1 y2 y3 y4 hq; subst hq; exact (key _ _ h _ rfl) _ _ _ _ _ rfl
  · intro q r9 out hst hre hin9
    intro r er; subst er
    refine ?_
    · intro y0 y1 y2 y3 y4 hq ls1 hl
      subst hq
      exact wX8_countRight_11 ad A C0 M hr hst hl hre (fun k0 k1 k2 k3 k4 hk => (hin9 _ hk _ rfl) _ _ _ _ _ rfl)
set_option maxHeartbeats 4000000 in
set_option maxRecDepth 100000 in
theorem wX8_init_0 {p : Program} {l : Launch} {e : Env} {s : State} {m : MethodId} {args : Array Value} {below : List Frame} {meth : Method} {c : Code} {D : va_G} {cy : Nat → ClassId} (ad : Nat → Nat) (A : Nat → Prop) {S : MS} {S' : MS} {H : Heap} {locs : List Loc} {K0 : Nat} {out : ((Nat × Int32 × MS) ⊕ MS)} {ls : Array Slot} {x0 : Nat} {x1 : Int32} {x2 : Int32} {x3 : Int32} {x4 : Int32} {x5 : Nat} (C0 : CX p s m args meth c RX8 cX8_init 7 D cy) (hA : ∀ k, 0 < k → A (ad k)) (hs : ∀ k, K0 ≤ k → ad (k + 1) + 1 = ad (k + 2)) (hE : EX ad A s) (M : ST D cy ad A s.heap (ZA ad K0) S H locs) (hr : meth.sig.returnType = none) (hin : meth.name = "<init>") (hF : bX8_init_0 S x0 x1 x2 x3 x4 x5 = some out) (hl : lv_has ls 7 [(0, .ref (ad x0)), (1, .int x1), (2, .int x2), (3, .int x3), (4, .int x4), (5, .ref (ad x5))]) (Kr : ∀ r9, out = .inr r9 → r9 = S') (Kh0 : ∀ (y0 : Nat) (y1 : Int32) (S2 : MS), out = .inl (y0, y1, S2) → ∀ (H1 : Heap) (locs1 : List Loc) (ls1 : Array Slot), ST D cy ad A s.heap (ZA ad K0) S2 H1 locs1 → lv_has ls1 7 [(0, .ref (ad y0)), (6, .int y1)] → W p l e rmX8_init s m args below meth c H1 locs1 1 3 (MQ below (QcA D cy ad A K0 S' (none)) args s 1 3 A) (F0 m 41 ls1 [])) : W p l e rmX8_init s m args below meth c H locs 0 0 (MQ below (QcA D cy ad A K0 S' (none)) args s 1 3 A) (F0 m 0 ls []) := by
  unfold bX8_init_0 at hF
  obtain ⟨hx, hb, -, hown, -, hts, -⟩ := id C0
  refine lv_aload_n hx hb dX8_init_0 rfl (lv_at hl 0 rfl) ?_
  refine W.objInit hx hb hown (hts _ (uw_of 623 (by decide +kernel) rfl)) (hts _ (uw_of 111 (by decide +kernel) rfl)) (hts _ (uw_of 112 (by decide +kernel) rfl)) rfl (by rw [C0.2.2.1]; exact hl.1) rfl dX8_init_1 (Nat.le_of_ble_eq_true rfl) (Nat.le_of_ble_eq_true rfl) ?_
  refine W.eq (g2 := F0 m 4 ls []) rfl ?_
  refine lv_aload_n hx hb dX8_init_4 rfl (lv_at hl 0 rfl) ?_
  refine lv_iload_n hx hb dX8_init_5 rfl (lv_at hl 1 rfl) ?_
  obtain ⟨S6, hv, hF⟩ := ob hF
  refine k_sIF C0 M hin hv fl_X8_9 dX8_init_6 (fun H locs M => ?_)
  refine lv_aload_n hx hb dX8_init_9 rfl (lv_at hl 0 rfl) ?_
  refine lv_iload_n hx hb dX8_init_10 rfl (lv_at hl 2 rfl) ?_
  obtain ⟨S11, hv, hF⟩ := ob hF
  refine k_sIF C0 M hin hv fl_X8_15 dX8_init_11 (fun H locs M => ?_)
  refine lv_aload_n hx hb dX8_init_14 rfl (lv_at hl 0 rfl) ?_
  refine lv_iload_n hx hb dX8_init_15 rfl (lv_at hl 3 rfl) ?_
  obtain ⟨S16, hv, hF⟩ := ob hF
  refine k_sIF C0 M hin hv fl_X8_18 dX8_init_16 (fun H locs M => ?_)
  refine lv_aload_n hx hb dX8_init_19 rfl (lv_at hl 0 rfl) ?_
  refine lv_iload hx hb dX8_init_20 (lv_at hl 4 rfl) ?_
  obtain ⟨S22, hv, hF⟩ := ob hF
  refine k_sIF C0 M hin hv fl_X8_21 dX8_init_22 (fun H locs M => ?_)
  refine lv_aload_n hx hb dX8_init_25 rfl (lv_at hl 0 rfl) ?_
  refine lv_aload hx hb dX8_init_26 (lv_at hl 5 rfl) ?_
  obtain ⟨S28, hv, hF⟩ := ob hF
  refine k_sPF C0 M hin rfl hv fl_X8_24 dX8_init_28 (fun H locs M => ?_)
  refine lv_aload_n hx hb dX8_init_31 rfl (lv_at hl 0 rfl) ?_
  refine lv_iconst (v := (3 : Int32)) hx hb dX8_init_32 (by decide) ?_
  obtain ⟨n33, hn, hF⟩ := ob hF
  obtain ⟨o33, ho, hF⟩ := ob hF
  obtain ⟨S33, hv, hF⟩ := ob hF
  have ho := vtI ho
  have hv := vtI hv
  refine k_newI (atype := .int) (ty := .int) (kd := 12) 0 C0 M hA hs rfl (uw_of 185 (by decide +kernel) rfl) rfl (by decide) rfl rfl hn (Nat.le_of_ble_eq_true rfl) (Nat.le_of_ble_eq_true rfl) (Nat.le_of_ble_eq_true rfl) dX8_init_33 (fun H M => ?_)
  rw [hv] at M
  rw [ho]
  refine W.widen (k := 1) (n := 3) (Nat.le_of_ble_eq_true rfl) (Nat.le_of_ble_eq_true rfl) ?_
  obtain ⟨S35, hv, hF⟩ := ob hF
  refine k_sPF C0 M hin rfl hv fl_X8_28 dX8_init_35 (fun H locs M => ?_)
  refine lv_iconst (v := (0 : Int32)) hx hb dX8_init_38 (by decide) ?_
  refine lv_istore (lv' := [(6, .int (0 : Int32)), (0, .ref (ad x0)), (1, .int x1), (2, .int x2), (3, .int x3), (4, .int x4), (5, .ref (ad x5))]) hx hb dX8_init_39 hl (by decide) rfl (fun ls hl => ?_)
  exact Kh0 _ _ _ (Option.some.inj hF).symm _ _ _ M (lv_sub hl [1, 0] rfl)
set_option maxHeartbeats 4000000 in
set_option maxRecDepth 100000 in
theorem wX8_init_41 {p : Program} {l : Launch} {e : Env} {s : State} {m : MethodId} {args : Array Value} {below : List Frame} {meth : Method} {c : Code} {D : va_G} {cy : Nat → ClassId} (ad : Nat → Nat) (A : Nat → Prop) {S : MS} {S' : MS} {H : Heap} {locs : List Loc} {K0 : Nat} {out : ((Nat × Int32 × MS) ⊕ MS)} {ls : Array Slot} {x0 : Nat} {x6 : Int32} (C0 : CX p s m args meth c RX8 cX8_init 7 D cy) (hA : ∀ k, 0 < k → A (ad k)) (hs : ∀ k, K0 ≤ k → ad (k + 1) + 1 = ad (k + 2)) (hE : EX ad A s) (M : ST D cy ad A s.heap (ZA ad K0) S H locs) (hr : meth.sig.returnType = none) (hin : meth.name = "<init>") (hF : bX8_init_41 S x0 x6 = some out) (hl : lv_has ls 7 [(0, .ref (ad x0)), (6, .int x6)]) (Kr : ∀ r9, out = .inr r9 → r9 = S') (Kh0 : ∀ (y0 : Nat) (y1 : Int32) (S2 : MS), out = .inl (y0, y1, S2) → ∀ (H1 : Heap) (locs1 : List Loc) (ls1 : Array Slot), ST D cy ad A s.heap (ZA ad K0) S2 H1 locs1 → lv_has ls1 7 [(0, .ref (ad y0)), (6, .int y1)] → W p l e rmX8_init s m args below meth c H1 locs1 1 3 (MQ below (QcA D cy ad A K0 S' (none)) args s 1 3 A) (F0 m 41 ls1 [])) : W p l e rmX8_init s m args below meth c H locs 1 3 (MQ below (QcA D cy ad A K0 S' (none)) args s 1 3 A) (F0 m 41 ls []) := by
  unfold bX8_init_41 at hF
  obtain ⟨hx, hb, -, hown, -, hts, -⟩ := id C0
  refine lv_iload hx hb dX8_init_41 (lv_at hl 1 rfl) ?_
  refine lv_iconst (v := (3 : Int32)) hx hb dX8_init_43 (by decide) ?_
  refine lv_icmp_ge (tgt := 66) hx hb dX8_init_44 (by decide) (fun hc => ?_) (fun hc => ?_)
  · have hF := oi_t hc hF
    obtain rfl := (Kr _ (Option.some.inj hF).symm)
    exact rt_AV C0 M hr dX8_init_66
  · have hF := oi_f hc hF
    refine lv_aload_n hx hb dX8_init_47 rfl (lv_at hl 0 rfl) ?_
    obtain ⟨v48, hv, hF⟩ := ob hF
    refine k_getP C0 M.1 hv fl_X8_28 dX8_init_48 ?_
    refine lv_iload hx hb dX8_init_51 (lv_at hl 1 rfl) ?_
    refine lv_aload_n hx hb dX8_init_53 rfl (lv_at hl 0 rfl) ?_
    refine lv_iload hx hb dX8_init_54 (lv_at hl 1 rfl) ?_
    obtain ⟨_, hrec, hF⟩ := ob hF
    obtain ⟨v56, hcl, hF⟩ := ob hF
    refine go_SI (r_V (rest := [.int x6, .ref (ad v48)]) (As := [.int x6]) C0 cb_X8_31 M.1 hrec (tX8_countRight l D cy ad A hcl) (pre_R C0 M.1) hl dX8_init_56 rfl (Nat.le_of_ble_eq_true rfl) ⟨rfl, rfl⟩ ⟨Nat.le_of_ble_eq_true rfl, Nat.le_of_ble_eq_true rfl⟩ ⟨Nat.le_of_ble_eq_true rfl, Nat.le_of_ble_eq_true rfl⟩ rfl) ?_
    obtain ⟨S59, hv, hF⟩ := ob hF
    refine k_st C0 M hv dX8_init_59 (fun H locs M => ?_)
    obtain ⟨v60, hv, hF⟩ := ob hF
    refine lv_iinc (v := v60) (lv' := [(6, .int v60), (0, .ref (ad x0))]) hx hb dX8_init_60 hl (k := 1) rfl (by rw [← vtI hv]; rfl) (by decide) rfl (fun ls hl => ?_)
    refine lv_goto (tgt := 41) hx hb dX8_init_63 (by decide) ?_
    exact Kh0 _ _ _ (Option.some.inj hF).symm _ _ _ M (lv_sub hl [1, 0] rfl)
set_option maxHeartbeats 4000000 in
set_option maxRecDepth 100000 in
theorem tX8_init (l : Launch) (D : va_G) (cy : Nat → ClassId) (ad : Nat → Nat) (A : Nat → Prop) (K0 : Nat) (hA : ∀ k, 0 < k → A (ad k)) (hs : ∀ k, K0 ≤ k → ad (k + 1) + 1 = ad (k + 2)) {S S' : MS} {a0 : Nat} {a1 : Int32} {a2 : Int32} {a3 : Int32} {a4 : Int32} {a5 : Nat} (h : fX8_init S a0 a1 a2 a3 a4 a5 = some S') : Met l yX8_init [Cond.code yX8_init cX8_init 7 (none)] rmX8_init (PcA D cy ad A K0 S [.ref (ad a0), .int a1, .int a2, .int a3, .int a4, .ref (ad a5)]) (QcA D cy ad A K0 S' (none)) 1 3 A := by
  refine met_A (by decide +kernel) cw_X8_init (Nat.le_of_ble_eq_true rfl) ?_
  intro p e s m args below meth c ls C0 hE M hr hin hl
  have hl : lv_has ls 7 [(0, .ref (ad a0)), (1, .int a1), (2, .int a2), (3, .int a3), (4, .int a4), (5, .ref (ad a5))] := hl
  have key := lim_walk (step := sX8_init) (fun (q : (Nat × Int32 × MS)) (r9 : MS) => ∀ (S' : MS), r9 = S' → ((∀ (y0 : Nat) (y1 : Int32) (S2 : MS), q = (y0, y1, S2) → ∀ (H1 : Heap) (locs1 : List Loc) (ls1 : Array Slot), ST D cy ad A s.heap (ZA ad K0) S2 H1 locs1 → lv_has ls1 7 [(0, .ref (ad y0)), (6, .int y1)] → W p l e rmX8_init s m args below meth c H1 locs1 1 3 (MQ below (QcA D cy ad A K0 S' (none)) args s 1 3 A) (F0 m 41 ls1 [])))) ?_
  · unfold fX8_init at h
    cases hs0 : bX8_init_0 S a0 a1 a2 a3 a4 a5 with
    | none => rw [hs0] at h; cases h
    | some out =>
      rw [hs0] at h
      refine wX8_init_0 ad A C0 hA hs hE M hr hin hs0 hl (fun r9 hr9 => ?_) ?_
      · subst hr9; exact Option.some.inj h
      · intro y0 y1 y2 hq; subst hq; exact (key _ _ h _ rfl) _ _ _ rfl
  · intro q r9 out hst hre hin9
    intro S' er; subst er
    refine ?_
    · intro y0 y1 y2 hq H1 locs1 ls1 M hl
      subst hq
      exact wX8_init_41 ad A C0 hA hs hE M hr hin hst hl hre (fun k0 k1 k2 hk => (hin9 _ hk _ rfl) _ _ _ rfl)
set_option maxHeartbeats 4000000 in
set_option maxRecDepth 100000 in
theorem wX9_wire_21 {p : Program} {l : Launch} {e : Env} {s : State} {m : MethodId} {args : Array Value} {below : List Frame} {meth : Method} {c : Code} {D : va_G} {cy : Nat → ClassId} (ad : Nat → Nat) (A : Nat → Prop) {S : MS} {S' : MS} {H : Heap} {locs : List Loc} {K0 : Nat} {r : Int32} {out : ((Nat × Int32 × Int32 × Int32 × Int32 × Nat × Int32 × MS) ⊕ (Int32 × MS))} {ls : Array Slot} (C0 : CX p s m args meth c RX9 cX9_wire 10 D cy) (hA : ∀ k, 0 < k → A (ad k)) (hs : ∀ k, K0 ≤ k → ad (k + 1) + 1 = ad (k + 2)) (hE : EX ad A s) (M : ST D cy ad A s.heap (ZA ad K0) S H locs) (hr : meth.sig.returnType = some .int) (hF : bX9_wire_21 S = some out) (hl : lv_has ls 10 []) (Kr : ∀ r9, out = .inr r9 → r9 = (r, S')) (Kh0 : ∀ (y0 : Nat) (y1 : Int32) (y2 : Int32) (y3 : Int32) (y4 : Int32) (y5 : Nat) (y6 : Int32) (S2 : MS), out = .inl (y0, y1, y2, y3, y4, y5, y6, S2) → ∀ (H1 : Heap) (locs1 : List Loc) (ls1 : Array Slot), ST D cy ad A s.heap (ZA ad K0) S2 H1 locs1 → lv_has ls1 10 [(0, .ref (ad y0)), (1, .int y1), (2, .int y2), (3, .int y3), (6, .int y4), (8, .ref (ad y5)), (9, .int y6)] → W p l e rmX9_wire s m args below meth c H1 locs1 0 0 (MQ below (QcA D cy ad A K0 S' (some (.int r))) args s 4 64 A) (F0 m 102 ls1 [])) : W p l e rmX9_wire s m args below meth c H locs 0 0 (MQ below (QcA D cy ad A K0 S' (some (.int r))) args s 4 64 A) (F0 m 21 ls []) := by
  unfold bX9_wire_21 at hF
  obtain ⟨hx, hb, -, hown, -, hts, -⟩ := id C0
  refine lv_iconst (v := (-1 : Int32)) hx hb dX9_wire_21 (by decide) ?_
  obtain ⟨rfl, rfl⟩ := Prod.mk.inj (Kr _ (Option.some.inj hF).symm)
  refine W.widen (k := 4) (n := 64) (Nat.le_of_ble_eq_true rfl) (Nat.le_of_ble_eq_true rfl) ?_
  exact rt_AI C0 M hr dX9_wire_22
set_option maxHeartbeats 4000000 in
set_option maxRecDepth 100000 in
theorem wX9_wire_52 {p : Program} {l : Launch} {e : Env} {s : State} {m : MethodId} {args : Array Value} {below : List Frame} {meth : Method} {c : Code} {D : va_G} {cy : Nat → ClassId} (ad : Nat → Nat) (A : Nat → Prop) {S : MS} {S' : MS} {H : Heap} {locs : List Loc} {K0 : Nat} {r : Int32} {out : ((Nat × Int32 × Int32 × Int32 × Int32 × Nat × Int32 × MS) ⊕ (Int32 × MS))} {ls : Array Slot} (C0 : CX p s m args meth c RX9 cX9_wire 10 D cy) (hA : ∀ k, 0 < k → A (ad k)) (hs : ∀ k, K0 ≤ k → ad (k + 1) + 1 = ad (k + 2)) (hE : EX ad A s) (M : ST D cy ad A s.heap (ZA ad K0) S H locs) (hr : meth.sig.returnType = some .int) (hF : bX9_wire_52 S = some out) (hl : lv_has ls 10 []) (Kr : ∀ r9, out = .inr r9 → r9 = (r, S')) (Kh0 : ∀ (y0 : Nat) (y1 : Int32) (y2 : Int32) (y3 : Int32) (y4 : Int32) (y5 : Nat) (y6 : Int32) (S2 : MS), out = .inl (y0, y1, y2, y3, y4, y5, y6, S2) → ∀ (H1 : Heap) (locs1 : List Loc) (ls1 : Array Slot), ST D cy ad A s.heap (ZA ad K0) S2 H1 locs1 → lv_has ls1 10 [(0, .ref (ad y0)), (1, .int y1), (2, .int y2), (3, .int y3), (6, .int y4), (8, .ref (ad y5)), (9, .int y6)] → W p l e rmX9_wire s m args below meth c H1 locs1 0 0 (MQ below (QcA D cy ad A K0 S' (some (.int r))) args s 4 64 A) (F0 m 102 ls1 [])) : W p l e rmX9_wire s m args below meth c H locs 0 0 (MQ below (QcA D cy ad A K0 S' (some (.int r))) args s 4 64 A) (F0 m 52 ls []) := by
  unfold bX9_wire_52 at hF
  obtain ⟨hx, hb, -, hown, -, hts, -⟩ := id C0
  refine lv_bipush (v := (-2 : Int32)) hx hb dX9_wire_52 (by decide) ?_
  obtain ⟨rfl, rfl⟩ := Prod.mk.inj (Kr _ (Option.some.inj hF).symm)
  refine W.widen (k := 4) (n := 64) (Nat.le_of_ble_eq_true rfl) (Nat.le_of_ble_eq_true rfl) ?_
  exact rt_AI C0 M hr dX9_wire_54
set_option maxHeartbeats 4000000 in
set_option maxRecDepth 100000 in
theorem wX9_wire_0 {p : Program} {l : Launch} {e : Env} {s : State} {m : MethodId} {args : Array Value} {below : List Frame} {meth : Method} {c : Code} {D : va_G} {cy : Nat → ClassId} (ad : Nat → Nat) (A : Nat → Prop) {S : MS} {S' : MS} {H : Heap} {locs : List Loc} {K0 : Nat} {r : Int32} {out : ((Nat × Int32 × Int32 × Int32 × Int32 × Nat × Int32 × MS) ⊕ (Int32 × MS))} {ls : Array Slot} {x0 : Nat} {x1 : Int32} {x2 : Int32} {x3 : Int32} {x4 : Int32} {x5 : Int32} {x6 : Int32} (C0 : CX p s m args meth c RX9 cX9_wire 10 D cy) (hA : ∀ k, 0 < k → A (ad k)) (hs : ∀ k, K0 ≤ k → ad (k + 1) + 1 = ad (k + 2)) (hE : EX ad A s) (M : ST D cy ad A s.heap (ZA ad K0) S H locs) (hr : meth.sig.returnType = some .int) (hF : bX9_wire_0 S x0 x1 x2 x3 x4 x5 x6 = some out) (hl : lv_has ls 10 [(0, .ref (ad x0)), (1, .int x1), (2, .int x2), (3, .int x3), (4, .int x4), (5, .int x5), (6, .int x6)]) (Kr : ∀ r9, out = .inr r9 → r9 = (r, S')) (Kh0 : ∀ (y0 : Nat) (y1 : Int32) (y2 : Int32) (y3 : Int32) (y4 : Int32) (y5 : Nat) (y6 : Int32) (S2 : MS), out = .inl (y0, y1, y2, y3, y4, y5, y6, S2) → ∀ (H1 : Heap) (locs1 : List Loc) (ls1 : Array Slot), ST D cy ad A s.heap (ZA ad K0) S2 H1 locs1 → lv_has ls1 10 [(0, .ref (ad y0)), (1, .int y1), (2, .int y2), (3, .int y3), (6, .int y4), (8, .ref (ad y5)), (9, .int y6)] → W p l e rmX9_wire s m args below meth c H1 locs1 0 0 (MQ below (QcA D cy ad A K0 S' (some (.int r))) args s 4 64 A) (F0 m 102 ls1 [])) : W p l e rmX9_wire s m args below meth c H locs 0 0 (MQ below (QcA D cy ad A K0 S' (some (.int r))) args s 4 64 A) (F0 m 0 ls []) := by
  unfold bX9_wire_0 at hF
  obtain ⟨hx, hb, -, hown, -, hts, -⟩ := id C0
  refine lv_aload_n hx hb dX9_wire_0 rfl (lv_at hl 0 rfl) ?_
  refine lv_iconst (v := (0 : Int32)) hx hb dX9_wire_1 (by decide) ?_
  obtain ⟨S2, hv, hF⟩ := ob hF
  refine k_sI C0 M hv fl_X9_76 dX9_wire_2 (fun H locs M => ?_)
  refine lv_aload_n hx hb dX9_wire_5 rfl (lv_at hl 0 rfl) ?_
  refine lv_iload_n hx hb dX9_wire_6 rfl (lv_at hl 1 rfl) ?_
  obtain ⟨_, hrec, hF⟩ := ob hF
  obtain ⟨v7, hcl, hF⟩ := ob hF
  refine go_SI (r_V (rest := []) (As := [.int x1]) C0 cb_X9_109 M.1 hrec (tX9_isPost l D cy ad A hcl) (pre_R C0 M.1) hl dX9_wire_7 rfl (Nat.le_of_ble_eq_true rfl) ⟨rfl, rfl⟩ ⟨Nat.le_of_ble_eq_true rfl, Nat.le_of_ble_eq_true rfl⟩ ⟨Nat.le_of_ble_eq_true rfl, Nat.le_of_ble_eq_true rfl⟩ rfl) ?_
  refine lv_if_eq (tgt := 21) hx hb dX9_wire_10 (by decide) (fun hc => ?_) (fun hc => ?_)
  · have hF := oi_t hc hF
    exact wX9_wire_21 ad A C0 hA hs hE M hr hF (lv_sub hl [] rfl) Kr Kh0
  · have hF := oi_f hc hF
    refine lv_iload hx hb dX9_wire_13 (lv_at hl 4 rfl) ?_
    obtain ⟨v15, hcl, hF⟩ := ob hF
    refine go_SI (r_S (rest := []) (As := [.int x4]) C0 cb_X9_150 (tX9_isSheet l D cy ad hcl) (pre_S C0) hl dX9_wire_15 rfl (Nat.le_of_ble_eq_true rfl) ⟨rfl, rfl⟩ ⟨Nat.le_of_ble_eq_true rfl, Nat.le_of_ble_eq_true rfl⟩ ⟨Nat.le_of_ble_eq_true rfl, Nat.le_of_ble_eq_true rfl⟩ rfl) ?_
    refine lv_if_ne (tgt := 23) hx hb dX9_wire_18 (by decide) (fun hc => ?_) (fun hc => ?_)
    · have hF := oi_f hc hF
      refine lv_iload hx hb dX9_wire_23 (lv_at hl 5 rfl) ?_
      refine lv_iconst (v := (3 : Int32)) hx hb dX9_wire_25 (by decide) ?_
      obtain ⟨v26, hcl, hF⟩ := ob hF
      refine go_SI (r_S (rest := []) (As := [.int x5, .int (3 : Int32)]) C0 cb_X9_79 (tX9_isBelow l D cy ad hcl) (pre_S C0) hl dX9_wire_26 rfl (Nat.le_of_ble_eq_true rfl) ⟨rfl, rfl⟩ ⟨Nat.le_of_ble_eq_true rfl, Nat.le_of_ble_eq_true rfl⟩ ⟨Nat.le_of_ble_eq_true rfl, Nat.le_of_ble_eq_true rfl⟩ rfl) ?_
      refine lv_if_eq (tgt := 52) hx hb dX9_wire_29 (by decide) (fun hc => ?_) (fun hc => ?_)
      · have hF := oi_t hc hF
        exact wX9_wire_52 ad A C0 hA hs hE M hr hF (lv_sub hl [] rfl) Kr Kh0
      · have hF := oi_f hc hF
        refine lv_iload_n hx hb dX9_wire_32 rfl (lv_at hl 2 rfl) ?_
        refine lv_iconst (v := (0 : Int32)) hx hb dX9_wire_33 (by decide) ?_
        refine lv_bipush (v := (99 : Int32)) hx hb dX9_wire_34 (by decide) ?_
        obtain ⟨v36, hcl, hF⟩ := ob hF
        refine go_SI (r_S (rest := []) (As := [.int x2, .int (0 : Int32), .int (99 : Int32)]) C0 cb_X9_86 (tX9_isWithin l D cy ad hcl) (pre_S C0) hl dX9_wire_36 rfl (Nat.le_of_ble_eq_true rfl) ⟨rfl, rfl⟩ ⟨Nat.le_of_ble_eq_true rfl, Nat.le_of_ble_eq_true rfl⟩ ⟨Nat.le_of_ble_eq_true rfl, Nat.le_of_ble_eq_true rfl⟩ rfl) ?_
        refine lv_if_eq (tgt := 52) hx hb dX9_wire_39 (by decide) (fun hc => ?_) (fun hc => ?_)
        · have hF := oi_t hc hF
          exact wX9_wire_52 ad A C0 hA hs hE M hr hF (lv_sub hl [] rfl) Kr Kh0
        · have hF := oi_f hc hF
          refine lv_iload_n hx hb dX9_wire_42 rfl (lv_at hl 3 rfl) ?_
          refine lv_iconst (v := (0 : Int32)) hx hb dX9_wire_43 (by decide) ?_
          refine lv_bipush (v := (99 : Int32)) hx hb dX9_wire_44 (by decide) ?_
          obtain ⟨v46, hcl, hF⟩ := ob hF
          refine go_SI (r_S (rest := []) (As := [.int x3, .int (0 : Int32), .int (99 : Int32)]) C0 cb_X9_86 (tX9_isWithin l D cy ad hcl) (pre_S C0) hl dX9_wire_46 rfl (Nat.le_of_ble_eq_true rfl) ⟨rfl, rfl⟩ ⟨Nat.le_of_ble_eq_true rfl, Nat.le_of_ble_eq_true rfl⟩ ⟨Nat.le_of_ble_eq_true rfl, Nat.le_of_ble_eq_true rfl⟩ rfl) ?_
          refine lv_if_ne (tgt := 55) hx hb dX9_wire_49 (by decide) (fun hc => ?_) (fun hc => ?_)
          · have hF := oi_f hc hF
            refine lv_aload_n hx hb dX9_wire_55 rfl (lv_at hl 0 rfl) ?_
            obtain ⟨v56, hv, hF⟩ := ob hF
            refine k_getP C0 M.1 hv fl_X9_67 dX9_wire_56 ?_
            refine lv_iload hx hb dX9_wire_59 (lv_at hl 4 rfl) ?_
            obtain ⟨v61, hv, hF⟩ := ob hF
            refine k_ldP (ty := (.object "ChartRoom$Sheet")) 2 C0 M.1 (by decide) rfl rfl hv dX9_wire_61 ?_
            refine lv_iload hx hb dX9_wire_62 (lv_at hl 5 rfl) ?_
            refine lv_iload hx hb dX9_wire_64 (lv_at hl 6 rfl) ?_
            refine lv_ldc2 (v := (15 : Int64)) hx hb hown (hts _ (uw_of 586 (by decide +kernel) rfl)) dX9_wire_66 ?_
            obtain ⟨_, hrec, hF⟩ := ob hF
            obtain ⟨v69, hcl, hF⟩ := ob hF
            refine go_SI (r_V (rest := []) (As := [.int x5, .int x6, .long (15 : Int64)]) C0 cb_X9_155 M.1 hrec (tX7_faultOfTaking l D cy ad A hcl) (pre_R C0 M.1) hl dX9_wire_69 rfl (Nat.le_of_ble_eq_true rfl) ⟨rfl, rfl⟩ ⟨Nat.le_of_ble_eq_true rfl, Nat.le_of_ble_eq_true rfl⟩ ⟨Nat.le_of_ble_eq_true rfl, Nat.le_of_ble_eq_true rfl⟩ rfl) ?_
            refine lv_istore (lv' := [(7, .int v69), (0, .ref (ad x0)), (1, .int x1), (2, .int x2), (3, .int x3), (4, .int x4), (5, .int x5), (6, .int x6)]) hx hb dX9_wire_72 hl (by decide) rfl (fun ls hl => ?_)
            refine lv_iload hx hb dX9_wire_74 (lv_at hl 0 rfl) ?_
            refine lv_if_eq (tgt := 86) hx hb dX9_wire_76 (by decide) (fun hc => ?_) (fun hc => ?_)
            · have hF := oi_t hc hF
              refine lv_aload_n hx hb dX9_wire_86 rfl (lv_at hl 1 rfl) ?_
              obtain ⟨v87, hv, hF⟩ := ob hF
              refine k_getP C0 M.1 hv fl_X9_67 dX9_wire_87 ?_
              refine lv_iload hx hb dX9_wire_90 (lv_at hl 5 rfl) ?_
              obtain ⟨v92, hv, hF⟩ := ob hF
              refine k_ldP (ty := (.object "ChartRoom$Sheet")) 2 C0 M.1 (by decide) rfl rfl hv dX9_wire_92 ?_
              obtain ⟨v93, hv, hF⟩ := ob hF
              refine k_getP C0 M.1 hv fl_X9_162 dX9_wire_93 ?_
              refine lv_astore (lv' := [(8, .ref (ad v93)), (7, .int v69), (0, .ref (ad x0)), (1, .int x1), (2, .int x2), (3, .int x3), (4, .int x4), (5, .int x5), (6, .int x6)]) hx hb dX9_wire_96 hl (by decide) rfl (fun ls hl => ?_)
              refine lv_iload hx hb dX9_wire_98 (lv_at hl 8 rfl) ?_
              refine lv_istore (lv' := [(9, .int x6), (8, .ref (ad v93)), (7, .int v69), (0, .ref (ad x0)), (1, .int x1), (2, .int x2), (3, .int x3), (4, .int x4), (5, .int x5), (6, .int x6)]) hx hb dX9_wire_100 hl (by decide) rfl (fun ls hl => ?_)
              exact Kh0 _ _ _ _ _ _ _ _ (Option.some.inj hF).symm _ _ _ M (lv_sub hl [3, 4, 5, 6, 9, 1, 0] rfl)
            · have hF := oi_f hc hF
              refine lv_aload_n hx hb dX9_wire_79 rfl (lv_at hl 1 rfl) ?_
              refine lv_iload hx hb dX9_wire_80 (lv_at hl 0 rfl) ?_
              obtain ⟨_, hrec, hF⟩ := ob hF
              obtain ⟨v82, S82, hcl, hF⟩ := ob2 hF
              refine go_MI (r_V (rest := []) (As := [.int v69]) C0 cb_X9_159 M.1 hrec (tX9_comeTo l D cy ad A hcl) (pre_R C0 M.1) hl dX9_wire_82 rfl (Nat.le_of_ble_eq_true rfl) ⟨rfl, rfl⟩ ⟨Nat.le_of_ble_eq_true rfl, Nat.le_of_ble_eq_true rfl⟩ ⟨Nat.le_of_ble_eq_true rfl, Nat.le_of_ble_eq_true rfl⟩ rfl) M (fun H locs M => ?_)
              obtain ⟨rfl, rfl⟩ := Prod.mk.inj (Kr _ (Option.some.inj hF).symm)
              refine W.widen (k := 4) (n := 64) (Nat.le_of_ble_eq_true rfl) (Nat.le_of_ble_eq_true rfl) ?_
              exact rt_AI C0 M hr dX9_wire_85
          · have hF := oi_t hc hF
            exact wX9_wire_52 ad A C0 hA hs hE M hr hF (lv_sub hl [] rfl) Kr Kh0
    · have hF := oi_t hc hF
      exact wX9_wire_21 ad A C0 hA hs hE M hr hF (lv_sub hl [] rfl) Kr Kh0
set_option maxHeartbeats 4000000 in
set_option maxRecDepth 100000 in
theorem wX9_wire_102 {p : Program} {l : Launch} {e : Env} {s : State} {m : MethodId} {args : Array Value} {below : List Frame} {meth : Method} {c : Code} {D : va_G} {cy : Nat → ClassId} (ad : Nat → Nat) (A : Nat → Prop) {S : MS} {S' : MS} {H : Heap} {locs : List Loc} {K0 : Nat} {r : Int32} {out : ((Nat × Int32 × Int32 × Int32 × Int32 × Nat × Int32 × MS) ⊕ (Int32 × MS))} {ls : Array Slot} {x0 : Nat} {x1 : Int32} {x2 : Int32} {x3 : Int32} {x6 : Int32} {x8 : Nat} {x9 : Int32} (C0 : CX p s m args meth c RX9 cX9_wire 10 D cy) (hA : ∀ k, 0 < k → A (ad k)) (hs : ∀ k, K0 ≤ k → ad (k + 1) + 1 = ad (k + 2)) (hE : EX ad A s) (M : ST D cy ad A s.heap (ZA ad K0) S H locs) (hr : meth.sig.returnType = some .int) (hF : bX9_wire_102 S x0 x1 x2 x3 x6 x8 x9 = some out) (hl : lv_has ls 10 [(0, .ref (ad x0)), (1, .int x1), (2, .int x2), (3, .int x3), (6, .int x6), (8, .ref (ad x8)), (9, .int x9)]) (Kr : ∀ r9, out = .inr r9 → r9 = (r, S')) (Kh0 : ∀ (y0 : Nat) (y1 : Int32) (y2 : Int32) (y3 : Int32) (y4 : Int32) (y5 : Nat) (y6 : Int32) (S2 : MS), out = .inl (y0, y1, y2, y3, y4, y5, y6, S2) → ∀ (H1 : Heap) (locs1 : List Loc) (ls1 : Array Slot), ST D cy ad A s.heap (ZA ad K0) S2 H1 locs1 → lv_has ls1 10 [(0, .ref (ad y0)), (1, .int y1), (2, .int y2), (3, .int y3), (6, .int y4), (8, .ref (ad y5)), (9, .int y6)] → W p l e rmX9_wire s m args below meth c H1 locs1 0 0 (MQ below (QcA D cy ad A K0 S' (some (.int r))) args s 4 64 A) (F0 m 102 ls1 [])) : W p l e rmX9_wire s m args below meth c H locs 0 0 (MQ below (QcA D cy ad A K0 S' (some (.int r))) args s 4 64 A) (F0 m 102 ls []) := by
  unfold bX9_wire_102 at hF
  obtain ⟨hx, hb, -, hown, -, hts, -⟩ := id C0
  refine lv_iload hx hb dX9_wire_102 (lv_at hl 6 rfl) ?_
  refine lv_iload hx hb dX9_wire_104 (lv_at hl 4 rfl) ?_
  refine lv_bipush (v := (15 : Int32)) hx hb dX9_wire_106 (by decide) ?_
  refine lv_iadd hx hb dX9_wire_108 ?_
  refine lv_icmp_ge (tgt := 135) hx hb dX9_wire_109 (by decide) (fun hc => ?_) (fun hc => ?_)
  · have hF := oi_t hc hF
    refine lv_aload_n hx hb dX9_wire_135 rfl (lv_at hl 0 rfl) ?_
    obtain ⟨v136, hv, hF⟩ := ob hF
    refine k_getP C0 M.1 hv fl_X9_12 dX9_wire_136 ?_
    obtain ⟨v139, hv, hF⟩ := ob hF
    refine k_getP C0 M.1 hv fl_X9_165 dX9_wire_139 ?_
    obtain ⟨_, hrec, hF⟩ := ob hF
    obtain ⟨v142, hcl, hF⟩ := ob hF
    refine go_SI (r_V (rest := []) (As := []) C0 cb_X9_93 M.1 hrec (tJx4a65c_size_8abf5 l D cy ad A hcl) (pre_R C0 M.1) hl dX9_wire_142 rfl (Nat.le_of_ble_eq_true rfl) ⟨rfl, rfl⟩ ⟨Nat.le_of_ble_eq_true rfl, Nat.le_of_ble_eq_true rfl⟩ ⟨Nat.le_of_ble_eq_true rfl, Nat.le_of_ble_eq_true rfl⟩ rfl) ?_
    refine lv_bipush (v := (30 : Int32)) hx hb dX9_wire_145 (by decide) ?_
    refine lv_icmp_lt (tgt := 153) hx hb dX9_wire_147 (by decide) (fun hc => ?_) (fun hc => ?_)
    · have hF := oi_t hc hF
      refine lv_aload_n hx hb dX9_wire_153 rfl (lv_at hl 0 rfl) ?_
      obtain ⟨v154, hv, hF⟩ := ob hF
      refine k_getP C0 M.1 hv fl_X9_12 dX9_wire_154 ?_
      obtain ⟨v157, hv, hF⟩ := ob hF
      refine k_getP C0 M.1 hv fl_X9_90 dX9_wire_157 ?_
      refine lv_iload_n hx hb dX9_wire_160 rfl (lv_at hl 1 rfl) ?_
      obtain ⟨_, hrec, hF⟩ := ob hF
      obtain ⟨v161, hcl, hF⟩ := ob hF
      refine go_SP (r_V (rest := []) (As := [.int x1]) C0 cb_X9_113 M.1 hrec (tJx4a65c_get_915e3 l D cy ad A hcl) (pre_R C0 M.1) hl dX9_wire_161 rfl (Nat.le_of_ble_eq_true rfl) ⟨rfl, rfl⟩ ⟨Nat.le_of_ble_eq_true rfl, Nat.le_of_ble_eq_true rfl⟩ ⟨Nat.le_of_ble_eq_true rfl, Nat.le_of_ble_eq_true rfl⟩ rfl) ?_
      obtain ⟨v164, hv, hF⟩ := ob hF
      refine k_cast (C := RX6) (T := TX6) (N := 6) C0 M.1 hv (by decide) rfl (uw_of 345 (by decide +kernel) rfl) dX9_wire_164 ?_
      obtain ⟨v167, hv, hF⟩ := ob hF
      refine k_getI C0 M.1 hv fl_X9_126 dX9_wire_167 ?_
      refine lv_istore (lv' := [(9, .int v167), (0, .ref (ad x0)), (1, .int x1), (2, .int x2), (3, .int x3), (6, .int x6), (8, .ref (ad x8))]) hx hb dX9_wire_170 hl (by decide) rfl (fun ls hl => ?_)
      refine lv_aload_n hx hb dX9_wire_172 rfl (lv_at hl 1 rfl) ?_
      obtain ⟨v173, hv, hF⟩ := ob hF
      refine k_getP C0 M.1 hv fl_X9_12 dX9_wire_173 ?_
      obtain ⟨v176, hv, hF⟩ := ob hF
      refine k_getP C0 M.1 hv fl_X9_165 dX9_wire_176 ?_
      obtain ⟨o179, ho, hF⟩ := ob hF
      obtain ⟨S179, hv, hF⟩ := ob hF
      have ho := vtI ho
      have hv := vtI hv
      refine k_new C0 M hA hs nw_X9_168 (Nat.le_of_ble_eq_true rfl) (Nat.le_of_ble_eq_true rfl) dX9_wire_179 (fun H M => ?_)
      rw [hv] at M
      rw [ho]
      refine W.widen (k := 1) (n := 6) (Nat.le_of_ble_eq_true rfl) (Nat.le_of_ble_eq_true rfl) ?_
      refine lv_dup hx hb dX9_wire_182 rfl ?_
      refine lv_iload_n hx hb dX9_wire_183 rfl (lv_at hl 2 rfl) ?_
      refine lv_iload hx hb dX9_wire_184 (lv_at hl 0 rfl) ?_
      refine lv_iload_n hx hb dX9_wire_186 rfl (lv_at hl 3 rfl) ?_
      refine lv_iload_n hx hb dX9_wire_187 rfl (lv_at hl 4 rfl) ?_
      refine lv_aload hx hb dX9_wire_188 (lv_at hl 6 rfl) ?_
      refine lv_iload hx hb dX9_wire_190 (lv_at hl 5 rfl) ?_
      refine lv_iload hx hb dX9_wire_192 (lv_at hl 5 rfl) ?_
      refine lv_bipush (v := (15 : Int32)) hx hb dX9_wire_194 (by decide) ?_
      refine lv_iadd hx hb dX9_wire_196 ?_
      obtain ⟨v197, S197, hcl, hF⟩ := ob2 hF
      refine go_AP (r_S (rest := [.int x3, .int x2, .int v167, .int x1, .ref (ad o179), .ref (ad o179), .ref (ad v176)]) (As := [.ref (ad x8), .int x6, .int (x6 + (15 : Int32))]) C0 cb_X9_170 (tJ7_copyOfRange_feecc l D cy ad A K0 hA hs hcl) (pre_A C0 hE M) hl dX9_wire_197 rfl (Nat.le_of_ble_eq_true rfl) ⟨rfl, rfl⟩ ⟨Nat.le_of_ble_eq_true rfl, Nat.le_of_ble_eq_true rfl⟩ ⟨Nat.le_of_ble_eq_true rfl, Nat.le_of_ble_eq_true rfl⟩ rfl) M (fun H locs M => ?_)
      refine W.widen (k := 2) (n := 21) (Nat.le_of_ble_eq_true rfl) (Nat.le_of_ble_eq_true rfl) ?_
      obtain ⟨S200, hcl, hF⟩ := ob hF
      refine go_AV (r_I (rest := [.ref (ad o179), .ref (ad v176)]) (As := [.int x1, .int v167, .int x2, .int x3, .ref (ad v197)]) C0 cb_X9_176 (tX8_init l D cy ad A K0 hA hs hcl) (pre_A C0 hE M) hl dX9_wire_200 rfl (Nat.le_of_ble_eq_true rfl) ⟨rfl, rfl⟩ ⟨Nat.le_of_ble_eq_true rfl, Nat.le_of_ble_eq_true rfl⟩ ⟨Nat.le_of_ble_eq_true rfl, Nat.le_of_ble_eq_true rfl⟩ rfl) M (fun H locs M => ?_)
      refine W.widen (k := 3) (n := 24) (Nat.le_of_ble_eq_true rfl) (Nat.le_of_ble_eq_true rfl) ?_
      obtain ⟨_, hrec, hF⟩ := ob hF
      obtain ⟨v203, S203, hcl, hF⟩ := ob2 hF
      refine go_AI (r_V (rest := []) (As := [.ref (ad o179)]) C0 cb_X9_102 M.1 hrec (tJx4a65c_add_9ea2d l D cy ad A K0 hA hs hcl) (pre_A C0 hE M) hl dX9_wire_203 rfl (Nat.le_of_ble_eq_true rfl) ⟨rfl, rfl⟩ ⟨Nat.le_of_ble_eq_true rfl, Nat.le_of_ble_eq_true rfl⟩ ⟨Nat.le_of_ble_eq_true rfl, Nat.le_of_ble_eq_true rfl⟩ rfl) M (fun H locs M => ?_)
      refine W.widen (k := 4) (n := 64) (Nat.le_of_ble_eq_true rfl) (Nat.le_of_ble_eq_true rfl) ?_
      refine lv_pop hx hb dX9_wire_206 rfl ?_
      refine lv_aload_n hx hb dX9_wire_207 rfl (lv_at hl 1 rfl) ?_
      obtain ⟨_, hrec, hF⟩ := ob hF
      obtain ⟨S208, hcl, hF⟩ := ob hF
      refine go_MV (r_V (rest := []) (As := []) C0 cb_X9_106 M.1 hrec (tX9_lookAgain l D cy ad A hcl) (pre_R C0 M.1) hl dX9_wire_208 rfl (Nat.le_of_ble_eq_true rfl) ⟨rfl, rfl⟩ ⟨Nat.le_of_ble_eq_true rfl, Nat.le_of_ble_eq_true rfl⟩ ⟨Nat.le_of_ble_eq_true rfl, Nat.le_of_ble_eq_true rfl⟩ rfl) M (fun H locs M => ?_)
      refine lv_aload_n hx hb dX9_wire_211 rfl (lv_at hl 1 rfl) ?_
      obtain ⟨v212, hv, hF⟩ := ob hF
      refine k_getP C0 M.1 hv fl_X9_12 dX9_wire_212 ?_
      obtain ⟨v215, hv, hF⟩ := ob hF
      refine k_getP C0 M.1 hv fl_X9_165 dX9_wire_215 ?_
      obtain ⟨_, hrec, hF⟩ := ob hF
      obtain ⟨v218, hcl, hF⟩ := ob hF
      refine go_SI (r_V (rest := []) (As := []) C0 cb_X9_93 M.1 hrec (tJx4a65c_size_8abf5 l D cy ad A hcl) (pre_R C0 M.1) hl dX9_wire_218 rfl (Nat.le_of_ble_eq_true rfl) ⟨rfl, rfl⟩ ⟨Nat.le_of_ble_eq_true rfl, Nat.le_of_ble_eq_true rfl⟩ ⟨Nat.le_of_ble_eq_true rfl, Nat.le_of_ble_eq_true rfl⟩ rfl) ?_
      refine lv_iconst (v := (1 : Int32)) hx hb dX9_wire_221 (by decide) ?_
      refine lv_isub hx hb dX9_wire_222 ?_
      obtain ⟨rfl, rfl⟩ := Prod.mk.inj (Kr _ (Option.some.inj hF).symm)
      exact rt_AI C0 M hr dX9_wire_223
    · have hF := oi_f hc hF
      refine lv_bipush (v := (-4 : Int32)) hx hb dX9_wire_150 (by decide) ?_
      obtain ⟨rfl, rfl⟩ := Prod.mk.inj (Kr _ (Option.some.inj hF).symm)
      refine W.widen (k := 4) (n := 64) (Nat.le_of_ble_eq_true rfl) (Nat.le_of_ble_eq_true rfl) ?_
      exact rt_AI C0 M hr dX9_wire_152
  · have hF := oi_f hc hF
    refine lv_aload hx hb dX9_wire_112 (lv_at hl 5 rfl) ?_
    refine lv_iload hx hb dX9_wire_114 (lv_at hl 6 rfl) ?_
    obtain ⟨v116, hv, hF⟩ := ob hF
    refine k_ld C0 M.1 hv dX9_wire_116 ?_
    refine lv_iconst (v := (-1 : Int32)) hx hb dX9_wire_117 (by decide) ?_
    refine lv_bipush (v := (9 : Int32)) hx hb dX9_wire_118 (by decide) ?_
    obtain ⟨v120, hcl, hF⟩ := ob hF
    refine go_SI (r_S (rest := []) (As := [.int v116, .int (-1 : Int32), .int (9 : Int32)]) C0 cb_X9_86 (tX9_isWithin l D cy ad hcl) (pre_S C0) hl dX9_wire_120 rfl (Nat.le_of_ble_eq_true rfl) ⟨rfl, rfl⟩ ⟨Nat.le_of_ble_eq_true rfl, Nat.le_of_ble_eq_true rfl⟩ ⟨Nat.le_of_ble_eq_true rfl, Nat.le_of_ble_eq_true rfl⟩ rfl) ?_
    refine lv_if_ne (tgt := 129) hx hb dX9_wire_123 (by decide) (fun hc => ?_) (fun hc => ?_)
    · have hF := oi_f hc hF
      obtain ⟨v129, hv, hF⟩ := ob hF
      refine lv_iinc (v := v129) (lv' := [(9, .int v129), (0, .ref (ad x0)), (1, .int x1), (2, .int x2), (3, .int x3), (6, .int x6), (8, .ref (ad x8))]) hx hb dX9_wire_129 hl (k := 6) rfl (by rw [← vtI hv]; rfl) (by decide) rfl (fun ls hl => ?_)
      refine lv_goto (tgt := 102) hx hb dX9_wire_132 (by decide) ?_
      exact Kh0 _ _ _ _ _ _ _ _ (Option.some.inj hF).symm _ _ _ M (lv_sub hl [1, 2, 3, 4, 5, 6, 0] rfl)
    · have hF := oi_t hc hF
      refine lv_bipush (v := (-2 : Int32)) hx hb dX9_wire_126 (by decide) ?_
      obtain ⟨rfl, rfl⟩ := Prod.mk.inj (Kr _ (Option.some.inj hF).symm)
      refine W.widen (k := 4) (n := 64) (Nat.le_of_ble_eq_true rfl) (Nat.le_of_ble_eq_true rfl) ?_
      exact rt_AI C0 M hr dX9_wire_128
set_option maxHeartbeats 4000000 in
set_option maxRecDepth 100000 in
theorem tX9_wire (l : Launch) (D : va_G) (cy : Nat → ClassId) (ad : Nat → Nat) (A : Nat → Prop) (K0 : Nat) (hA : ∀ k, 0 < k → A (ad k)) (hs : ∀ k, K0 ≤ k → ad (k + 1) + 1 = ad (k + 2)) {S S' : MS} {a0 : Nat} {a1 : Int32} {a2 : Int32} {a3 : Int32} {a4 : Int32} {a5 : Int32} {a6 : Int32} {r : Int32} (h : fX9_wire S a0 a1 a2 a3 a4 a5 a6 = some (r, S')) : Met l yX9_wire [Cond.code yX9_wire cX9_wire 10 (some .int)] rmX9_wire (PcA D cy ad A K0 S [.ref (ad a0), .int a1, .int a2, .int a3, .int a4, .int a5, .int a6]) (QcA D cy ad A K0 S' (some (.int r))) 4 64 A := by
  refine met_A (by decide +kernel) cw_X9_wire (Nat.le_of_ble_eq_true rfl) ?_
  intro p e s m args below meth c ls C0 hE M hr hin hl
  have hl : lv_has ls 10 [(0, .ref (ad a0)), (1, .int a1), (2, .int a2), (3, .int a3), (4, .int a4), (5, .int a5), (6, .int a6)] := hl
  have key := lim_walk (step := sX9_wire) (fun (q : (Nat × Int32 × Int32 × Int32 × Int32 × Nat × Int32 × MS)) (r9 : (Int32 × MS)) => ∀ (r : Int32) (S' : MS), r9 = (r, S') → ((∀ (y0 : Nat) (y1 : Int32) (y2 : Int32) (y3 : Int32) (y4 : Int32) (y5 : Nat) (y6 : Int32) (S2 : MS), q = (y0, y1, y2, y3, y4, y5, y6, S2) → ∀ (H1 : Heap) (locs1 : List Loc) (ls1 : Array Slot), ST D cy ad A s.heap (ZA ad K0) S2 H1 locs1 → lv_has ls1 10 [(0, .ref (ad y0)), (1, .int y1), (2, .int y2), (3, .int y3), (6, .int y4), (8, .ref (ad y5)), (9, .int y6)] → W p l e rmX9_wire s m args below meth c H1 locs1 0 0 (MQ below (QcA D cy ad A K0 S' (some (.int r))) args s 4 64 A) (F0 m 102 ls1 [])))) ?_
  · unfold fX9_wire at h
    cases hs0 : bX9_wire_0 S a0 a1 a2 a3 a4 a5 a6 with
    | none => rw [hs0] at h; cases h
    | some out =>
      rw [hs0] at h
      refine wX9_wire_0 ad A C0 hA hs hE M hr hs0 hl (fun r9 hr9 => ?_) ?_
      · subst hr9; exact Option.some.inj h
      · intro y0 y1 y2 y3 y4 y5 y6 y7 hq; subst hq; exact (key _ _ h _ _ rfl) _ _ _ _ _ _ _ _ rfl
  · intro q r9 out hst hre hin9
    intro r S' er; subst er
    refine ?_
    · intro y0 y1 y2 y3 y4 y5 y6 y7 hq H1 locs1 ls1 M hl
      subst hq
      exact wX9_wire_102 ad A C0 hA hs hE M hr hst hl hre (fun k0 k1 k2 k3 k4 k5 k6 k7 hk => (hin9 _ hk _ _ rfl) _ _ _ _ _ _ _ _ rfl)
set_option maxHeartbeats 4000000 in
set_option maxRecDepth 100000 in
theorem wX9_yOf_0 {p : Program} {l : Launch} {e : Env} {s : State} {m : MethodId} {args : Array Value} {below : List Frame} {meth : Method} {c : Code} {D : va_G} {cy : Nat → ClassId} (ad : Nat → Nat) (A : Nat → Prop) {S : MS} {r : Int32} {ls : Array Slot} {x0 : Nat} {x1 : Int32} {x2 : Int32} {x3 : Int32} (C0 : CX p s m args meth c RX9 cX9_yOf 5 D cy) (M : MW D cy ad A S s.heap) (hr : meth.sig.returnType = some .int) (hF : bX9_yOf_0 S x0 x1 x2 x3 = some r) (hl : lv_has ls 5 [(0, .ref (ad x0)), (1, .int x1), (2, .int x2), (3, .int x3)]) : W p l e rmX9_yOf s m args below meth c s.heap [] 0 0 (MQ below (QcS (some (.int r))) args s 0 0 (fun _ => False)) (F0 m 0 ls []) := by
  unfold bX9_yOf_0 at hF
  obtain ⟨hx, hb, -, hown, -, hts, -⟩ := id C0
  refine lv_iload_n hx hb dX9_yOf_0 rfl (lv_at hl 1 rfl) ?_
  refine lv_iconst (v := (2 : Int32)) hx hb dX9_yOf_1 (by decide) ?_
  obtain ⟨v2, hcl, hF⟩ := ob hF
  refine go_SI (r_S (rest := []) (As := [.int x1, .int (2 : Int32)]) C0 cb_X9_79 (tX9_isBelow l D cy ad hcl) (pre_S C0) hl dX9_yOf_2 rfl (Nat.le_of_ble_eq_true rfl) ⟨rfl, rfl⟩ ⟨Nat.le_of_ble_eq_true rfl, Nat.le_of_ble_eq_true rfl⟩ ⟨Nat.le_of_ble_eq_true rfl, Nat.le_of_ble_eq_true rfl⟩ rfl) ?_
  refine lv_if_ne (tgt := 11) hx hb dX9_yOf_5 (by decide) (fun hc => ?_) (fun hc => ?_)
  · have hF := oi_f hc hF
    refine lv_iload_n hx hb dX9_yOf_11 rfl (lv_at hl 2 rfl) ?_
    refine lv_aload_n hx hb dX9_yOf_12 rfl (lv_at hl 0 rfl) ?_
    refine lv_iload_n hx hb dX9_yOf_13 rfl (lv_at hl 1 rfl) ?_
    obtain ⟨_, hrec, hF⟩ := ob hF
    obtain ⟨v14, hcl, hF⟩ := ob hF
    refine go_SP (r_V (rest := [.int x2]) (As := [.int x1]) C0 cb_X9_261 M hrec (tX9_frontsOf l D cy ad A hcl) (pre_R C0 M) hl dX9_yOf_14 rfl (Nat.le_of_ble_eq_true rfl) ⟨rfl, rfl⟩ ⟨Nat.le_of_ble_eq_true rfl, Nat.le_of_ble_eq_true rfl⟩ ⟨Nat.le_of_ble_eq_true rfl, Nat.le_of_ble_eq_true rfl⟩ rfl) ?_
    obtain ⟨_, hrec, hF⟩ := ob hF
    obtain ⟨v17, hcl, hF⟩ := ob hF
    refine go_SI (r_V (rest := [.int x2]) (As := []) C0 cb_X9_93 M hrec (tJx4a65c_size_8abf5 l D cy ad A hcl) (pre_R C0 M) hl dX9_yOf_17 rfl (Nat.le_of_ble_eq_true rfl) ⟨rfl, rfl⟩ ⟨Nat.le_of_ble_eq_true rfl, Nat.le_of_ble_eq_true rfl⟩ ⟨Nat.le_of_ble_eq_true rfl, Nat.le_of_ble_eq_true rfl⟩ rfl) ?_
    obtain ⟨v20, hcl, hF⟩ := ob hF
    refine go_SI (r_S (rest := []) (As := [.int x2, .int v17]) C0 cb_X9_79 (tX9_isBelow l D cy ad hcl) (pre_S C0) hl dX9_yOf_20 rfl (Nat.le_of_ble_eq_true rfl) ⟨rfl, rfl⟩ ⟨Nat.le_of_ble_eq_true rfl, Nat.le_of_ble_eq_true rfl⟩ ⟨Nat.le_of_ble_eq_true rfl, Nat.le_of_ble_eq_true rfl⟩ rfl) ?_
    refine lv_if_ne (tgt := 28) hx hb dX9_yOf_23 (by decide) (fun hc => ?_) (fun hc => ?_)
    · have hF := oi_f hc hF
      refine lv_aload_n hx hb dX9_yOf_28 rfl (lv_at hl 0 rfl) ?_
      refine lv_iload_n hx hb dX9_yOf_29 rfl (lv_at hl 1 rfl) ?_
      obtain ⟨_, hrec, hF⟩ := ob hF
      obtain ⟨v30, hcl, hF⟩ := ob hF
      refine go_SP (r_V (rest := []) (As := [.int x1]) C0 cb_X9_261 M hrec (tX9_frontsOf l D cy ad A hcl) (pre_R C0 M) hl dX9_yOf_30 rfl (Nat.le_of_ble_eq_true rfl) ⟨rfl, rfl⟩ ⟨Nat.le_of_ble_eq_true rfl, Nat.le_of_ble_eq_true rfl⟩ ⟨Nat.le_of_ble_eq_true rfl, Nat.le_of_ble_eq_true rfl⟩ rfl) ?_
      refine lv_iload_n hx hb dX9_yOf_33 rfl (lv_at hl 2 rfl) ?_
      obtain ⟨_, hrec, hF⟩ := ob hF
      obtain ⟨v34, hcl, hF⟩ := ob hF
      refine go_SP (r_V (rest := []) (As := [.int x2]) C0 cb_X9_113 M hrec (tJx4a65c_get_915e3 l D cy ad A hcl) (pre_R C0 M) hl dX9_yOf_34 rfl (Nat.le_of_ble_eq_true rfl) ⟨rfl, rfl⟩ ⟨Nat.le_of_ble_eq_true rfl, Nat.le_of_ble_eq_true rfl⟩ ⟨Nat.le_of_ble_eq_true rfl, Nat.le_of_ble_eq_true rfl⟩ rfl) ?_
      obtain ⟨v37, hv, hF⟩ := ob hF
      refine k_cast (C := RX3) (T := TX3) (N := 5) C0 M hv (by decide) rfl (uw_of 831 (by decide +kernel) rfl) dX9_yOf_37 ?_
      refine lv_astore (lv' := [(4, .ref (ad v37)), (0, .ref (ad x0)), (1, .int x1), (2, .int x2), (3, .int x3)]) hx hb dX9_yOf_40 hl (by decide) rfl (fun ls hl => ?_)
      refine lv_iload_n hx hb dX9_yOf_42 rfl (lv_at hl 4 rfl) ?_
      refine lv_aload hx hb dX9_yOf_43 (lv_at hl 0 rfl) ?_
      obtain ⟨v45, hv, hF⟩ := ob hF
      refine k_getI C0 M hv fl_X9_272 dX9_yOf_45 ?_
      refine lv_aload hx hb dX9_yOf_48 (lv_at hl 0 rfl) ?_
      obtain ⟨v50, hv, hF⟩ := ob hF
      refine k_getI C0 M hv fl_X9_275 dX9_yOf_50 ?_
      obtain ⟨v53, hcl, hF⟩ := ob hF
      refine go_SI (r_S (rest := []) (As := [.int x3, .int v45, .int v50]) C0 cb_X9_86 (tX9_isWithin l D cy ad hcl) (pre_S C0) hl dX9_yOf_53 rfl (Nat.le_of_ble_eq_true rfl) ⟨rfl, rfl⟩ ⟨Nat.le_of_ble_eq_true rfl, Nat.le_of_ble_eq_true rfl⟩ ⟨Nat.le_of_ble_eq_true rfl, Nat.le_of_ble_eq_true rfl⟩ rfl) ?_
      refine lv_if_ne (tgt := 61) hx hb dX9_yOf_56 (by decide) (fun hc => ?_) (fun hc => ?_)
      · have hF := oi_f hc hF
        refine lv_aload hx hb dX9_yOf_61 (lv_at hl 0 rfl) ?_
        obtain ⟨v63, hv, hF⟩ := ob hF
        refine k_getP C0 M hv fl_X9_284 dX9_yOf_63 ?_
        refine lv_iload_n hx hb dX9_yOf_66 rfl (lv_at hl 4 rfl) ?_
        obtain ⟨v67, hv, hF⟩ := ob hF
        refine k_ld C0 M hv dX9_yOf_67 ?_
        obtain rfl := (Option.some.inj hF)
        exact rt_SI C0 hr dX9_yOf_68
      · have hF := oi_t hc hF
        refine lv_iconst (v := (-1 : Int32)) hx hb dX9_yOf_59 (by decide) ?_
        obtain rfl := (Option.some.inj hF)
        exact rt_SI C0 hr dX9_yOf_60
    · have hF := oi_t hc hF
      refine lv_iconst (v := (-1 : Int32)) hx hb dX9_yOf_26 (by decide) ?_
      obtain rfl := (Option.some.inj hF)
      exact rt_SI C0 hr dX9_yOf_27
  · have hF := oi_t hc hF
    refine lv_bipush (v := (-2 : Int32)) hx hb dX9_yOf_8 (by decide) ?_
    obtain rfl := (Option.some.inj hF)
    exact rt_SI C0 hr dX9_yOf_10
set_option maxHeartbeats 4000000 in
set_option maxRecDepth 100000 in
theorem tX9_yOf (l : Launch) (D : va_G) (cy : Nat → ClassId) (ad : Nat → Nat) (A : Nat → Prop) {S : MS} {a0 : Nat} {a1 : Int32} {a2 : Int32} {a3 : Int32} {r : Int32} (h : fX9_yOf S a0 a1 a2 a3 = some r) : Met l yX9_yOf [Cond.code yX9_yOf cX9_yOf 5 (some .int)] rmX9_yOf (PcR D cy ad A S [.ref (ad a0), .int a1, .int a2, .int a3]) (QcS (some (.int r))) 0 0 (fun _ => False) := by
  refine met_R (by decide +kernel) cw_X9_yOf (Nat.le_of_ble_eq_true rfl) ?_
  intro p e s m args below meth c ls C0 M hr hl
  have hl : lv_has ls 5 [(0, .ref (ad a0)), (1, .int a1), (2, .int a2), (3, .int a3)] := hl
  exact wX9_yOf_0 ad A C0 M hr h hl
