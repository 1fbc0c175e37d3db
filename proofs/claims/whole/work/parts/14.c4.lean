theorem fl_X9_194 : FL RX9 194 9 5 2 (.array .int) 2 := ⟨RX8, "ChartRoom$Wire", TX8, 6, tyX8, rfl, iu_9, tyX8_ok, nmX8, by decide, rfl, by decide, (uw_of 642 (by decide +kernel) rfl), Or.inl rfl, tyX8_ok 5 (by decide), (fun h => by cases h), (fun h => by cases h), rfl⟩
theorem cb_X9_223 : CBV RX9 223 yX1_mendedLevel cX1_mendedLevel 2 (some .int) 1 2 := ⟨⟨cw_X1_mendedLevel, ini_ChartRoom_Desk, by decide, (uw_of 699 (by decide +kernel) rfl)⟩, (uw_of 521 (by decide +kernel) rfl), (uw_of 522 (by decide +kernel) rfl), by decide, TX1, 9, rfl⟩
theorem cw_X9_level : Cond.code yX9_level cX9_level 3 (some .int) ∈ UW := (uw_of 698 (by decide +kernel) rfl)
theorem cw_X0_countBelow : Cond.code yX0_countBelow cX0_countBelow 4 (some .int) ∈ UW := (uw_of 743 (by decide +kernel) rfl)
theorem cw_X0_reach : Cond.code yX0_reach cX0_reach 3 (some .int) ∈ UW := (uw_of 739 (by decide +kernel) rfl)
theorem cb_X0_114 : CBV RX0 114 yX0_reach cX0_reach 3 (some .int) 2 1 := ⟨⟨cw_X0_reach, ini_ChartRoom_Chart, by decide, (uw_of 736 (by decide +kernel) rfl)⟩, (uw_of 738 (by decide +kernel) rfl), (uw_of 17 (by decide +kernel) rfl), by decide, TX0, 10, rfl⟩
theorem cw_X0_reachPiece : Cond.code yX0_reachPiece cX0_reachPiece 7 (none) ∈ UW := (uw_of 735 (by decide +kernel) rfl)
theorem cb_X0_110 : CBV RX0 110 yX0_reachPiece cX0_reachPiece 7 (none) 1 1 := ⟨⟨cw_X0_reachPiece, ini_ChartRoom_Chart, by decide, (uw_of 732 (by decide +kernel) rfl)⟩, (uw_of 734 (by decide +kernel) rfl), (uw_of 16 (by decide +kernel) rfl), by decide, TX0, 10, rfl⟩
theorem cw_X0_countPieces : Cond.code yX0_countPieces cX0_countPieces 5 (some .int) ∈ UW := (uw_of 731 (by decide +kernel) rfl)
theorem cw_X0_countWrong : Cond.code yX0_countWrong cX0_countWrong 5 (some .int) ∈ UW := (uw_of 747 (by decide +kernel) rfl)
theorem cw_X0_lengthOfLine : Cond.code yX0_lengthOfLine cX0_lengthOfLine 5 (some .int) ∈ UW := (uw_of 727 (by decide +kernel) rfl)
theorem cb_X9_238 : CBV RX9 238 yX0_lengthOfLine cX0_lengthOfLine 5 (some .int) 1 1 := ⟨⟨cw_X0_lengthOfLine, ini_ChartRoom_Chart, by decide, (uw_of 724 (by decide +kernel) rfl)⟩, (uw_of 725 (by decide +kernel) rfl), (uw_of 726 (by decide +kernel) rfl), by decide, TX0, 10, rfl⟩
theorem cb_X9_241 : CBV RX9 241 yX0_countPieces cX0_countPieces 5 (some .int) 2 1 := ⟨⟨cw_X0_countPieces, ini_ChartRoom_Chart, by decide, (uw_of 728 (by decide +kernel) rfl)⟩, (uw_of 729 (by decide +kernel) rfl), (uw_of 730 (by decide +kernel) rfl), by decide, TX0, 10, rfl⟩
theorem cb_X9_245 : CBV RX9 245 yX0_countBelow cX0_countBelow 4 (some .int) 1 1 := ⟨⟨cw_X0_countBelow, ini_ChartRoom_Chart, by decide, (uw_of 740 (by decide +kernel) rfl)⟩, (uw_of 741 (by decide +kernel) rfl), (uw_of 742 (by decide +kernel) rfl), by decide, TX0, 10, rfl⟩
theorem cb_X9_248 : CBV RX9 248 yX0_countWrong cX0_countWrong 5 (some .int) 2 1 := ⟨⟨cw_X0_countWrong, ini_ChartRoom_Chart, by decide, (uw_of 744 (by decide +kernel) rfl)⟩, (uw_of 745 (by decide +kernel) rfl), (uw_of 746 (by decide +kernel) rfl), by decide, TX0, 10, rfl⟩
theorem cw_X9_line : Cond.code yX9_line cX9_line 4 (some .int) ∈ UW := (uw_of 719 (by decide +kernel) rfl)
theorem fl_X1_77 : FL RX1 77 9 2 0 .int 2 := ⟨RX8, "ChartRoom$Wire", TX8, 6, tyX8, rfl, iu_9, tyX8_ok, nmX8, by decide, rfl, by decide, (uw_of 635 (by decide +kernel) rfl), Or.inl rfl, tyX8_ok 2 (by decide), (fun h => by cases h), (fun h => by cases h), rfl⟩
theorem fl_X1_66 : FL RX1 66 9 5 2 (.array .int) 2 := ⟨RX8, "ChartRoom$Wire", TX8, 6, tyX8, rfl, iu_9, tyX8_ok, nmX8, by decide, rfl, by decide, (uw_of 641 (by decide +kernel) rfl), Or.inl rfl, tyX8_ok 5 (by decide), (fun h => by cases h), (fun h => by cases h), rfl⟩
theorem fl_X1_76 : FL RX1 76 9 1 0 .int 2 := ⟨RX8, "ChartRoom$Wire", TX8, 6, tyX8, rfl, iu_9, tyX8_ok, nmX8, by decide, rfl, by decide, (uw_of 632 (by decide +kernel) rfl), Or.inl rfl, tyX8_ok 1 (by decide), (fun h => by cases h), (fun h => by cases h), rfl⟩
theorem cw_X1_latestReadable : Cond.code yX1_latestReadable cX1_latestReadable 8 (some .int) ∈ UW := (uw_of 476 (by decide +kernel) rfl)
theorem fl_X6_9 : FL RX6 9 7 0 0 .int 1 := ⟨RX6, "ChartRoom$Post", TX6, 6, tyX6, rfl, iu_7, tyX6_ok, nmX6, by decide, rfl, by decide, (uw_of 351 (by decide +kernel) rfl), Or.inl rfl, tyX6_ok 0 (by decide), (fun h => by cases h), (fun _ => ⟨rfl, rfl⟩), rfl⟩
theorem cb_X6_38 : CBS RX6 38 yJ9_floorDiv_7cf53 cJ9_floorDiv_7cf53 3 (some .int) 2 := ⟨⟨cw_J9_floorDiv_7cf53, ini_java_lang_Math, by decide, (uw_of 466 (by decide +kernel) rfl)⟩, (uw_of 467 (by decide +kernel) rfl)⟩
theorem cb_X6_44 : CBS RX6 44 yJ9_floorMod_7cf53 cJ9_floorMod_7cf53 3 (some .int) 2 := ⟨⟨cw_J9_floorMod_7cf53, ini_java_lang_Math, by decide, (uw_of 469 (by decide +kernel) rfl)⟩, (uw_of 470 (by decide +kernel) rfl)⟩
theorem cw_X6_along : Cond.code yX6_along cX6_along 6 (some .int) ∈ UW := (uw_of 465 (by decide +kernel) rfl)
theorem fl_X6_15 : FL RX6 15 7 1 0 .int 1 := ⟨RX6, "ChartRoom$Post", TX6, 6, tyX6, rfl, iu_7, tyX6_ok, nmX6, by decide, rfl, by decide, (uw_of 353 (by decide +kernel) rfl), Or.inl rfl, tyX6_ok 1 (by decide), (fun h => by cases h), (fun _ => ⟨rfl, rfl⟩), rfl⟩
theorem fl_X6_24 : FL RX6 24 7 4 0 .int 1 := ⟨RX6, "ChartRoom$Post", TX6, 6, tyX6, rfl, iu_7, tyX6_ok, nmX6, by decide, rfl, by decide, (uw_of 359 (by decide +kernel) rfl), Or.inl rfl, tyX6_ok 4 (by decide), (fun h => by cases h), (fun _ => ⟨rfl, rfl⟩), rfl⟩
theorem ini_ChartRoom_Post : Cond.initialized "ChartRoom$Post" ∈ UW := (uw_of 94 (by decide +kernel) rfl)
theorem cb_X6_30 : CBV RX6 30 yX6_along cX6_along 6 (some .int) 3 7 := ⟨⟨cw_X6_along, ini_ChartRoom_Post, by decide, (uw_of 462 (by decide +kernel) rfl)⟩, (uw_of 464 (by decide +kernel) rfl), (uw_of 4 (by decide +kernel) rfl), by decide, TX6, 6, rfl⟩
theorem fl_X6_18 : FL RX6 18 7 2 0 .int 1 := ⟨RX6, "ChartRoom$Post", TX6, 6, tyX6, rfl, iu_7, tyX6_ok, nmX6, by decide, rfl, by decide, (uw_of 355 (by decide +kernel) rfl), Or.inl rfl, tyX6_ok 2 (by decide), (fun h => by cases h), (fun _ => ⟨rfl, rfl⟩), rfl⟩
theorem fl_X6_27 : FL RX6 27 7 5 0 .int 1 := ⟨RX6, "ChartRoom$Post", TX6, 6, tyX6, rfl, iu_7, tyX6_ok, nmX6, by decide, rfl, by decide, (uw_of 361 (by decide +kernel) rfl), Or.inl rfl, tyX6_ok 5 (by decide), (fun h => by cases h), (fun _ => ⟨rfl, rfl⟩), rfl⟩
theorem cb_X6_34 : CNS RX6 34 yX9_isPlace "ChartRoom" cX9_isPlace 2 (some .boolean) 2 := ⟨⟨cw_X9_isPlace, ini_ChartRoom, by decide, (uw_of 472 (by decide +kernel) rfl)⟩, (uw_of 336 (by decide +kernel) rfl)⟩
theorem cw_X6_placeAt : Cond.code yX6_placeAt cX6_placeAt 4 (some .int) ∈ UW := (uw_of 461 (by decide +kernel) rfl)
theorem cw_X8_readingAt : Cond.code yX8_readingAt cX8_readingAt 7 (some .int) ∈ UW := (uw_of 481 (by decide +kernel) rfl)
theorem cb_X1_69 : CBV RX1 69 yX8_readingAt cX8_readingAt 7 (some .int) 2 9 := ⟨⟨cw_X8_readingAt, ini_ChartRoom_Wire, by decide, (uw_of 478 (by decide +kernel) rfl)⟩, (uw_of 479 (by decide +kernel) rfl), (uw_of 480 (by decide +kernel) rfl), by decide, TX8, 6, rfl⟩
theorem cb_X1_59 : CBV RX1 59 yX6_placeAt cX6_placeAt 4 (some .int) 1 7 := ⟨⟨cw_X6_placeAt, ini_ChartRoom_Post, by decide, (uw_of 458 (by decide +kernel) rfl)⟩, (uw_of 459 (by decide +kernel) rfl), (uw_of 460 (by decide +kernel) rfl), by decide, TX6, 6, rfl⟩
theorem cb_X1_63 : CBV RX1 63 yX1_latestReadable cX1_latestReadable 8 (some .int) 1 2 := ⟨⟨cw_X1_latestReadable, ini_ChartRoom_Desk, by decide, (uw_of 473 (by decide +kernel) rfl)⟩, (uw_of 475 (by decide +kernel) rfl), (uw_of 5 (by decide +kernel) rfl), by decide, TX1, 9, rfl⟩
theorem cw_X1_look : Cond.code yX1_look cX1_look 3 (none) ∈ UW := (uw_of 441 (by decide +kernel) rfl)
theorem cb_X9_375 : CBV RX9 375 yX1_look cX1_look 3 (none) 0 2 := ⟨⟨cw_X1_look, ini_ChartRoom_Desk, by decide, (uw_of 438 (by decide +kernel) rfl)⟩, (uw_of 439 (by decide +kernel) rfl), (uw_of 440 (by decide +kernel) rfl), by decide, TX1, 9, rfl⟩
theorem cw_X9_lookAgain : Cond.code yX9_lookAgain cX9_lookAgain 1 (none) ∈ UW := (uw_of 437 (by decide +kernel) rfl)
theorem cw_X7_drop : Cond.code yX7_drop cX7_drop 1 (none) ∈ UW := (uw_of 1003 (by decide +kernel) rfl)
theorem cb_X9_345 : CBV RX9 345 yX7_drop cX7_drop 1 (none) 0 8 := ⟨⟨cw_X7_drop, ini_ChartRoom_Sheet, by decide, (uw_of 1000 (by decide +kernel) rfl)⟩, (uw_of 1001 (by decide +kernel) rfl), (uw_of 1002 (by decide +kernel) rfl), by decide, TX7, 3, rfl⟩
theorem cw_X9_lose : Cond.code yX9_lose cX9_lose 2 (some .int) ∈ UW := (uw_of 998 (by decide +kernel) rfl)
theorem fl_X9_205 : FL RX9 205 2 7 0 .int 0 := ⟨RX1, "ChartRoom$Desk", TX1, 9, tyX1, rfl, iu_2, tyX1_ok, nmX1, by decide, rfl, by decide, (uw_of 164 (by decide +kernel) rfl), Or.inl rfl, tyX1_ok 7 (by decide), (fun _ => rfl), (fun h => by cases h), rfl⟩
theorem cb_X9_208 : CBS RX9 208 yJ6_bitCount_0f7a4 cJ6_bitCount_0f7a4 1 (some .int) 1 := ⟨⟨cw_J6_bitCount_0f7a4, ini_java_lang_Integer, by decide, (uw_of 681 (by decide +kernel) rfl)⟩, (uw_of 563 (by decide +kernel) rfl)⟩
theorem fl_X9_201 : FL RX9 201 2 2 0 .int 0 := ⟨RX1, "ChartRoom$Desk", TX1, 9, tyX1, rfl, iu_2, tyX1_ok, nmX1, by decide, rfl, by decide, (uw_of 152 (by decide +kernel) rfl), Or.inl rfl, tyX1_ok 2 (by decide), (fun _ => rfl), (fun h => by cases h), rfl⟩
theorem fl_X9_202 : FL RX9 202 2 3 0 .int 0 := ⟨RX1, "ChartRoom$Desk", TX1, 9, tyX1, rfl, iu_2, tyX1_ok, nmX1, by decide, rfl, by decide, (uw_of 154 (by decide +kernel) rfl), Or.inl rfl, tyX1_ok 3 (by decide), (fun _ => rfl), (fun h => by cases h), rfl⟩
theorem cb_X9_372 : CBV RX9 372 yX9_countKept cX9_countKept 3 (some .int) 0 10 := ⟨⟨cw_X9_countKept, ini_ChartRoom, by decide, (uw_of 1061 (by decide +kernel) rfl)⟩, (uw_of 1063 (by decide +kernel) rfl), (uw_of 38 (by decide +kernel) rfl), by decide, TX9, 13, rfl⟩
theorem cw_X9_many : Cond.code yX9_many cX9_many 2 (some .int) ∈ UW := (uw_of 1060 (by decide +kernel) rfl)
theorem cw_X1_mendedPress : Cond.code yX1_mendedPress cX1_mendedPress 2 (some .int) ∈ UW := (uw_of 694 (by decide +kernel) rfl)
theorem cb_X9_220 : CBV RX9 220 yX1_mendedPress cX1_mendedPress 2 (some .int) 1 2 := ⟨⟨cw_X1_mendedPress, ini_ChartRoom_Desk, by decide, (uw_of 691 (by decide +kernel) rfl)⟩, (uw_of 692 (by decide +kernel) rfl), (uw_of 693 (by decide +kernel) rfl), by decide, TX1, 9, rfl⟩
theorem cw_X9_mended : Cond.code yX9_mended cX9_mended 3 (some .int) ∈ UW := (uw_of 690 (by decide +kernel) rfl)
theorem cb_X9_291 : CBV RX9 291 yJx4a65c_clear_da8c8 cJx4a65c_clear_da8c8 4 (none) 0 0 := ⟨⟨cw_Jx4a65c_clear_da8c8, ini_java_util_ArrayList, by decide, (uw_of 879 (by decide +kernel) rfl)⟩, (uw_of 880 (by decide +kernel) rfl), (uw_of 881 (by decide +kernel) rfl), by decide, TJx4a65c, 3, rfl⟩
theorem cw_X9_night : Cond.code yX9_night cX9_night 2 (some .int) ∈ UW := (uw_of 878 (by decide +kernel) rfl)
theorem cb_X9_147 : CBV RX9 147 yX6_placeAt cX6_placeAt 4 (some .int) 1 7 := ⟨⟨cw_X6_placeAt, ini_ChartRoom_Post, by decide, (uw_of 578 (by decide +kernel) rfl)⟩, (uw_of 459 (by decide +kernel) rfl), (uw_of 460 (by decide +kernel) rfl), by decide, TX6, 6, rfl⟩
theorem cw_X9_place : Cond.code yX9_place cX9_place 3 (some .int) ∈ UW := (uw_of 577 (by decide +kernel) rfl)
theorem fl_X6_21 : FL RX6 21 7 3 0 .int 1 := ⟨RX6, "ChartRoom$Post", TX6, 6, tyX6, rfl, iu_7, tyX6_ok, nmX6, by decide, rfl, by decide, (uw_of 357 (by decide +kernel) rfl), Or.inl rfl, tyX6_ok 3 (by decide), (fun h => by cases h), (fun _ => ⟨rfl, rfl⟩), rfl⟩
theorem cw_X6_init : Cond.code yX6_init cX6_init 7 (none) ∈ UW := (uw_of 349 (by decide +kernel) rfl)
theorem cb_X9_83 : CBS RX9 83 yX9_isPlace cX9_isPlace 2 (some .boolean) 2 := ⟨⟨cw_X9_isPlace, ini_ChartRoom, by decide, (uw_of 335 (by decide +kernel) rfl)⟩, (uw_of 336 (by decide +kernel) rfl)⟩
theorem nw_X9_97 : NWF RX9 97 7 6 := ⟨RX6, TX6, tyX6, rfl, iu_7, tyX6_ok, rfl, by decide, (uw_of 345 (by decide +kernel) rfl), (uw_of 346 (by decide +kernel) rfl), (uw_of 94 (by decide +kernel) rfl), by decide⟩
theorem cb_X9_99 : CBI RX9 99 yX6_init cX6_init 7 6 := ⟨⟨cw_X6_init, ini_ChartRoom_Post, by decide, (uw_of 347 (by decide +kernel) rfl)⟩, (uw_of 348 (by decide +kernel) rfl), rfl⟩
theorem cb_X9_106 : CBV RX9 106 yX9_lookAgain cX9_lookAgain 1 (none) 0 10 := ⟨⟨cw_X9_lookAgain, ini_ChartRoom, by decide, (uw_of 434 (by decide +kernel) rfl)⟩, (uw_of 436 (by decide +kernel) rfl), (uw_of 3 (by decide +kernel) rfl), by decide, TX9, 13, rfl⟩
theorem cw_X9_post : Cond.code yX9_post cX9_post 7 (some .int) ∈ UW := (uw_of 331 (by decide +kernel) rfl)
abbrev rmX9_level : Room := { frames := 4, cells := 0, slots := 0, locals := 96 }
abbrev rmX0_countBelow : Room := { frames := 0, cells := 0, slots := 0, locals := 0 }
abbrev rmX0_reach : Room := { frames := 0, cells := 0, slots := 0, locals := 0 }
abbrev rmX0_reachPiece : Room := { frames := 1, cells := 0, slots := 0, locals := 22 }
abbrev rmX0_countPieces : Room := { frames := 2, cells := 0, slots := 0, locals := 48 }
abbrev rmX0_countWrong : Room := { frames := 1, cells := 0, slots := 0, locals := 21 }
abbrev rmX0_lengthOfLine : Room := { frames := 0, cells := 0, slots := 0, locals := 0 }
abbrev rmX9_line : Room := { frames := 6, cells := 0, slots := 0, locals := 141 }
abbrev rmX1_latestReadable : Room := { frames := 3, cells := 0, slots := 0, locals := 64 }
abbrev rmX6_along : Room := { frames := 1, cells := 0, slots := 0, locals := 22 }
abbrev rmX6_placeAt : Room := { frames := 2, cells := 0, slots := 0, locals := 47 }
abbrev rmX8_readingAt : Room := { frames := 1, cells := 0, slots := 0, locals := 29 }
abbrev rmX1_look : Room := { frames := 4, cells := 0, slots := 0, locals := 91 }
abbrev rmX9_lookAgain : Room := { frames := 5, cells := 0, slots := 0, locals := 113 }
abbrev rmX7_drop : Room := { frames := 0, cells := 0, slots := 0, locals := 0 }
abbrev rmX9_lose : Room := { frames := 2, cells := 0, slots := 0, locals := 41 }
abbrev rmX9_many : Room := { frames := 1, cells := 0, slots := 0, locals := 22 }
abbrev rmX1_mendedPress : Room := { frames := 3, cells := 0, slots := 0, locals := 75 }
abbrev rmX9_mended : Room := { frames := 4, cells := 0, slots := 0, locals := 96 }
abbrev rmX9_night : Room := { frames := 1, cells := 0, slots := 0, locals := 23 }
abbrev rmX9_place : Room := { frames := 3, cells := 0, slots := 0, locals := 70 }
abbrev rmX6_init : Room := { frames := 1, cells := 0, slots := 0, locals := 20 }
abbrev rmX9_post : Room := { frames := 8, cells := 2, slots := 46, locals := 228 }
noncomputable def bX9_level_51 (S : MS) : Option Int32 :=
  some (-3 : Int32)
noncomputable def bX9_level_0 (S : MS) (x0 : Nat) (x1 : Int32) : Option Int32 :=
  (o_is S x0 10).bind fun _ =>
  (fX9_isWire S x0 x1).bind fun v2 =>
  if v2 = 0 then
    some (-1 : Int32)
  else
    (o_gP S x0 10 0).bind fun v11 =>
    (o_gP S v11 2 1).bind fun v14 =>
    (o_is S v14 0).bind fun _ =>
    (fJx4a65c_get_915e3 S v14 x1).bind fun v18 =>
    (o_is S v18 9).bind fun v21 =>
    (o_gP S x0 10 0).bind fun v26 =>
    (o_gP S v26 2 4).bind fun v29 =>
    (o_gI S v21 9 0).bind fun v33 =>
    (o_ld S v29 12 v33).bind fun v36 =>
    if v36 = (-9 : Int32) then
      bX9_level_51 S
    else
      (o_gP S v21 9 5).bind fun v43 =>
      (o_ld S v43 12 (1 : Int32)).bind fun v47 =>
      if v47 = 0 then
        bX9_level_51 S
      else
        (o_gP S x0 10 0).bind fun v55 =>
        (o_is S v55 2).bind fun _ =>
        (fX1_mendedLevel S v55 v21).bind fun v59 =>
        some v59
noncomputable def fX9_level (S : MS) (a0 : Nat) (a1 : Int32) : Option Int32 := bX9_level_0 S a0 a1
noncomputable def bX0_countBelow_0 (S : MS) (x0 : Nat) (x1 : Int32) : Option ((Nat × Int32 × Int32 × Int32) ⊕ Int32) :=
  some (.inl (x0, x1, (0 : Int32), (0 : Int32)))
noncomputable def bX0_countBelow_24 (S : MS) (x0 : Nat) (x1 : Int32) (x2 : Int32) (x3 : Int32) : Option ((Nat × Int32 × Int32 × Int32) ⊕ Int32) :=
  (some (x3 + 1)).bind fun v24 =>
  some (.inl (x0, x1, x2, v24))
noncomputable def bX0_countBelow_4 (S : MS) (x0 : Nat) (x1 : Int32) (x2 : Int32) (x3 : Int32) : Option ((Nat × Int32 × Int32 × Int32) ⊕ Int32) :=
  if (144 : Int32) ≤ x3 then
    some (.inr x2)
  else
    (o_gP S x0 1 4).bind fun v12 =>
    (o_ld S v12 12 x3).bind fun v16 =>
    if x1 ≤ v16 then
      bX0_countBelow_24 S x0 x1 x2 x3
    else
      (some (x2 + 1)).bind fun v21 =>
      bX0_countBelow_24 S x0 x1 v21 x3
noncomputable def sX0_countBelow (S : MS) : (Nat × Int32 × Int32 × Int32) → Option ((Nat × Int32 × Int32 × Int32) ⊕ Int32) := (fun t => bX0_countBelow_4 S t.1 t.2.1 t.2.2.1 t.2.2.2)
noncomputable def hX0_countBelow_4 (S : MS) (x0 : Nat) (x1 : Int32) (x2 : Int32) (x3 : Int32) : Option Int32 := lim (sX0_countBelow S) (x0, x1, x2, x3)
theorem qX0_countBelow_4 (S : MS) (x0 : Nat) (x1 : Int32) (x2 : Int32) (x3 : Int32) : hX0_countBelow_4 S x0 x1 x2 x3 = fin (sX0_countBelow S) (bX0_countBelow_4 S x0 x1 x2 x3) := lim_eq _ _
noncomputable def fX0_countBelow (S : MS) (a0 : Nat) (a1 : Int32) : Option Int32 := fin (sX0_countBelow S) (bX0_countBelow_0 S a0 a1)
noncomputable def bX0_reach_16 (S : MS) (x2 : Int32) : Option (Int32 × MS) :=
  some (x2, S)
noncomputable def bX0_reach_0 (S : MS) (x0 : Nat) (x1 : Int32) (x2 : Int32) : Option (Int32 × MS) :=
  (o_gP S x0 1 8).bind fun v1 =>
  (o_ld S v1 13 x1).bind fun v5 =>
  if v5 = 0 then
    if x2 < (144 : Int32) then
      (o_gP S x0 1 8).bind fun v19 =>
      (o_st S v19 13 x1 (1 : Int32)).bind fun S24 =>
      (o_gP S24 x0 1 9).bind fun v26 =>
      (o_st S24 v26 12 x2 x1).bind fun S31 =>
      some ((x2 + (1 : Int32)), S31)
    else
      bX0_reach_16 S x2
  else
    bX0_reach_16 S x2
noncomputable def fX0_reach (S : MS) (a0 : Nat) (a1 : Int32) (a2 : Int32) : Option (Int32 × MS) := bX0_reach_0 S a0 a1 a2
noncomputable def bX0_reachPiece_0 (S : MS) (x0 : Nat) (x1 : Int32) : Option ((Nat × Int32 × Int32 × MS) ⊕ MS) :=
  (o_is S x0 1).bind fun _ =>
  b2 (fX0_reach S x0 x1 (0 : Int32)) fun v3 S3 =>
  some (.inl (x0, v3, (0 : Int32), S3))
noncomputable def bX0_reachPiece_109 (S : MS) (x0 : Nat) (x2 : Int32) (x3 : Int32) : Option ((Nat × Int32 × Int32 × MS) ⊕ MS) :=
  (some (x3 + 1)).bind fun v109 =>
  some (.inl (x0, x2, v109, S))
noncomputable def bX0_reachPiece_91 (S : MS) (x0 : Nat) (x2 : Int32) (x3 : Int32) (x4 : Int32) (x6 : Int32) : Option ((Nat × Int32 × Int32 × MS) ⊕ MS) :=
  if (11 : Int32) ≤ x6 then
    bX0_reachPiece_109 S x0 x2 x3
  else
    (o_is S x0 1).bind fun _ =>
    b2 (fX0_reach S x0 (x4 + (12 : Int32)) x2) fun v105 S105 =>
    bX0_reachPiece_109 S105 x0 v105 x3
noncomputable def bX0_reachPiece_75 (S : MS) (x0 : Nat) (x2 : Int32) (x3 : Int32) (x4 : Int32) (x6 : Int32) : Option ((Nat × Int32 × Int32 × MS) ⊕ MS) :=
  if x6 ≤ 0 then
    bX0_reachPiece_91 S x0 x2 x3 x4 x6
  else
    (o_is S x0 1).bind fun _ =>
    b2 (fX0_reach S x0 (x4 - (12 : Int32)) x2) fun v87 S87 =>
    bX0_reachPiece_91 S87 x0 v87 x3 x4 x6
noncomputable def bX0_reachPiece_58 (S : MS) (x0 : Nat) (x2 : Int32) (x3 : Int32) (x4 : Int32) (x5 : Int32) (x6 : Int32) : Option ((Nat × Int32 × Int32 × MS) ⊕ MS) :=
  if (11 : Int32) ≤ x5 then
    bX0_reachPiece_75 S x0 x2 x3 x4 x6
  else
    (o_is S x0 1).bind fun _ =>
    b2 (fX0_reach S x0 (x4 + (1 : Int32)) x2) fun v71 S71 =>
    bX0_reachPiece_75 S71 x0 v71 x3 x4 x6
noncomputable def bX0_reachPiece_115 (S : MS) : Option ((Nat × Int32 × Int32 × MS) ⊕ MS) :=
  some (.inr S)
noncomputable def bX0_reachPiece_9 (S : MS) (x0 : Nat) (x2 : Int32) (x3 : Int32) : Option ((Nat × Int32 × Int32 × MS) ⊕ MS) :=
  if x2 ≤ x3 then
    bX0_reachPiece_115 S
  else
    if (144 : Int32) ≤ x3 then
      bX0_reachPiece_115 S
    else
      (o_gP S x0 1 9).bind fun v22 =>
      (o_ld S v22 12 x3).bind fun v26 =>
      (some ((v26 - v26 / (12 : Int32) * (12 : Int32)))).bind fun v34 =>
      (some ((v26 / (12 : Int32)))).bind fun v41 =>
      if v34 ≤ 0 then
        bX0_reachPiece_58 S x0 x2 x3 v26 v34 v41
      else
        (o_is S x0 1).bind fun _ =>
        b2 (fX0_reach S x0 (v26 - (1 : Int32)) x2) fun v54 S54 =>
        bX0_reachPiece_58 S54 x0 v54 x3 v26 v34 v41
noncomputable def sX0_reachPiece : (Nat × Int32 × Int32 × MS) → Option ((Nat × Int32 × Int32 × MS) ⊕ MS) := (fun t => bX0_reachPiece_9 t.2.2.2 t.1 t.2.1 t.2.2.1)
noncomputable def hX0_reachPiece_9 (S : MS) (x0 : Nat) (x2 : Int32) (x3 : Int32) : Option MS := lim (sX0_reachPiece) (x0, x2, x3, S)
theorem qX0_reachPiece_9 (S : MS) (x0 : Nat) (x2 : Int32) (x3 : Int32) : hX0_reachPiece_9 S x0 x2 x3 = fin (sX0_reachPiece) (bX0_reachPiece_9 S x0 x2 x3) := lim_eq _ _
noncomputable def fX0_reachPiece (S : MS) (a0 : Nat) (a1 : Int32) : Option MS := fin (sX0_reachPiece) (bX0_reachPiece_0 S a0 a1)
noncomputable def bX0_countPieces_0 (S : MS) (x0 : Nat) (x1 : Int32) (x2 : Int32) : Option (((Nat × Int32 × Int32 × Int32 × MS) ⊕ (Nat × Int32 × Int32 × MS)) ⊕ (Int32 × MS)) :=
  some (.inl (.inl (x0, x1, x2, (0 : Int32), S)))
noncomputable def bX0_countPieces_38 (S : MS) (x0 : Nat) (x1 : Int32) (x2 : Int32) (x3 : Int32) (z0 : Nat) (z1 : Int32) (z2 : Int32) : Option (((Nat × Int32 × Int32 × Int32 × MS) ⊕ (Nat × Int32 × Int32 × MS)) ⊕ (Int32 × MS)) :=
  (o_zb z2).bind fun z38 =>
  (o_st S z0 13 z1 z38).bind fun S38 =>
  (some (x3 + 1)).bind fun v39 =>
  some (.inl (.inl (x0, x1, x2, v39, S38)))
noncomputable def bX0_countPieces_29 (S : MS) (x0 : Nat) (x1 : Int32) (x2 : Int32) (x3 : Int32) (z0 : Nat) (z1 : Int32) (z2 : Int32) : Option (((Nat × Int32 × Int32 × Int32 × MS) ⊕ (Nat × Int32 × Int32 × MS)) ⊕ (Int32 × MS)) :=
  if z2 = x2 then
    bX0_countPieces_38 S x0 x1 x2 x3 z0 z1 (0 : Int32)
  else
    bX0_countPieces_38 S x0 x1 x2 x3 z0 z1 (1 : Int32)
noncomputable def bX0_countPieces_2 (S : MS) (x0 : Nat) (x1 : Int32) (x2 : Int32) (x3 : Int32) : Option (((Nat × Int32 × Int32 × Int32 × MS) ⊕ (Nat × Int32 × Int32 × MS)) ⊕ (Int32 × MS)) :=
  if (144 : Int32) ≤ x3 then
    some (.inl (.inr (x0, (0 : Int32), (0 : Int32), S)))
  else
    (o_gP S x0 1 8).bind fun v10 =>
    (o_gP S x0 1 4).bind fun v15 =>
    (o_ld S v15 12 x3).bind fun v19 =>
    if x1 ≤ v19 then
      bX0_countPieces_29 S x0 x1 x2 x3 v10 x3 (0 : Int32)
    else
      bX0_countPieces_29 S x0 x1 x2 x3 v10 x3 (1 : Int32)
noncomputable def bX0_countPieces_77 (S : MS) (x0 : Nat) (x3 : Int32) (x4 : Int32) : Option (((Nat × Int32 × Int32 × Int32 × MS) ⊕ (Nat × Int32 × Int32 × MS)) ⊕ (Int32 × MS)) :=
  (some (x4 + 1)).bind fun v77 =>
  some (.inl (.inr (x0, x3, v77, S)))
noncomputable def bX0_countPieces_50 (S : MS) (x0 : Nat) (x3 : Int32) (x4 : Int32) : Option (((Nat × Int32 × Int32 × Int32 × MS) ⊕ (Nat × Int32 × Int32 × MS)) ⊕ (Int32 × MS)) :=
  if (144 : Int32) ≤ x4 then
    some (.inr (x3, S))
  else
    (o_gP S x0 1 8).bind fun v59 =>
    (o_ld S v59 13 x4).bind fun v64 =>
    if v64 = 0 then
      (some (x3 + 1)).bind fun v68 =>
      (o_is S x0 1).bind fun _ =>
      (fX0_reachPiece S x0 x4).bind fun S74 =>
      bX0_countPieces_77 S74 x0 v68 x4
    else
      bX0_countPieces_77 S x0 x3 x4
noncomputable def sX0_countPieces : ((Nat × Int32 × Int32 × Int32 × MS) ⊕ (Nat × Int32 × Int32 × MS)) → Option (((Nat × Int32 × Int32 × Int32 × MS) ⊕ (Nat × Int32 × Int32 × MS)) ⊕ (Int32 × MS)) := (Sum.elim (fun t => bX0_countPieces_2 t.2.2.2.2 t.1 t.2.1 t.2.2.1 t.2.2.2.1) (fun t => bX0_countPieces_50 t.2.2.2 t.1 t.2.1 t.2.2.1))
noncomputable def hX0_countPieces_2 (S : MS) (x0 : Nat) (x1 : Int32) (x2 : Int32) (x3 : Int32) : Option (Int32 × MS) := lim (sX0_countPieces) (.inl (x0, x1, x2, x3, S))
theorem qX0_countPieces_2 (S : MS) (x0 : Nat) (x1 : Int32) (x2 : Int32) (x3 : Int32) : hX0_countPieces_2 S x0 x1 x2 x3 = fin (sX0_countPieces) (bX0_countPieces_2 S x0 x1 x2 x3) := lim_eq _ _
noncomputable def hX0_countPieces_50 (S : MS) (x0 : Nat) (x3 : Int32) (x4 : Int32) : Option (Int32 × MS) := lim (sX0_countPieces) (.inr (x0, x3, x4, S))
theorem qX0_countPieces_50 (S : MS) (x0 : Nat) (x3 : Int32) (x4 : Int32) : hX0_countPieces_50 S x0 x3 x4 = fin (sX0_countPieces) (bX0_countPieces_50 S x0 x3 x4) := lim_eq _ _
noncomputable def fX0_countPieces (S : MS) (a0 : Nat) (a1 : Int32) (a2 : Int32) : Option (Int32 × MS) := fin (sX0_countPieces) (bX0_countPieces_0 S a0 a1 a2)
noncomputable def bX0_countWrong_0 (S : MS) (x0 : Nat) (x1 : Nat) (x2 : Int32) : Option ((Nat × Nat × Int32 × Int32 × Int32) ⊕ Int32) :=
  some (.inl (x0, x1, x2, (0 : Int32), (0 : Int32)))
noncomputable def bX0_countWrong_72 (S : MS) (x0 : Nat) (x1 : Nat) (x2 : Int32) (x3 : Int32) (x4 : Int32) : Option ((Nat × Nat × Int32 × Int32 × Int32) ⊕ Int32) :=
  (some (x4 + 1)).bind fun v72 =>
  some (.inl (x0, x1, x2, x3, v72))
noncomputable def bX0_countWrong_66 (S : MS) (x0 : Nat) (x1 : Nat) (x2 : Int32) (x3 : Int32) (x4 : Int32) (z0 : Int32) (z1 : Int32) : Option ((Nat × Nat × Int32 × Int32 × Int32) ⊕ Int32) :=
  if z0 = z1 then
    bX0_countWrong_72 S x0 x1 x2 x3 x4
  else
    (some (x3 + 1)).bind fun v69 =>
    bX0_countWrong_72 S x0 x1 x2 v69 x4
noncomputable def bX0_countWrong_45 (S : MS) (x0 : Nat) (x1 : Nat) (x2 : Int32) (x3 : Int32) (x4 : Int32) (z0 : Int32) : Option ((Nat × Nat × Int32 × Int32 × Int32) ⊕ Int32) :=
  (o_gP S x0 1 4).bind fun v46 =>
  (o_gP S x1 2 4).bind fun v50 =>
  (o_ld S v50 12 x4).bind fun v55 =>
  (o_ld S v46 12 v55).bind fun v56 =>
  if x2 ≤ v56 then
    bX0_countWrong_66 S x0 x1 x2 x3 x4 z0 (0 : Int32)
  else
    bX0_countWrong_66 S x0 x1 x2 x3 x4 z0 (1 : Int32)
noncomputable def bX0_countWrong_5 (S : MS) (x0 : Nat) (x1 : Nat) (x2 : Int32) (x3 : Int32) (x4 : Int32) : Option ((Nat × Nat × Int32 × Int32 × Int32) ⊕ Int32) :=
  (o_gP S x1 2 0).bind fun v8 =>
  (o_is S v8 0).bind fun _ =>
  (fJx4a65c_size_8abf5 S v8).bind fun v11 =>
  if v11 ≤ x4 then
    some (.inr x3)
  else
    (o_gI S x1 2 7).bind fun v18 =>
    (fX9_isIn v18 x4).bind fun v23 =>
    if v23 = 0 then
      bX0_countWrong_72 S x0 x1 x2 x3 x4
    else
      (o_gP S x0 1 1).bind fun v30 =>
      (o_ld S v30 12 x4).bind fun v35 =>
      if x2 ≤ v35 then
        bX0_countWrong_45 S x0 x1 x2 x3 x4 (0 : Int32)
      else
        bX0_countWrong_45 S x0 x1 x2 x3 x4 (1 : Int32)
noncomputable def sX0_countWrong (S : MS) : (Nat × Nat × Int32 × Int32 × Int32) → Option ((Nat × Nat × Int32 × Int32 × Int32) ⊕ Int32) := (fun t => bX0_countWrong_5 S t.1 t.2.1 t.2.2.1 t.2.2.2.1 t.2.2.2.2)
noncomputable def hX0_countWrong_5 (S : MS) (x0 : Nat) (x1 : Nat) (x2 : Int32) (x3 : Int32) (x4 : Int32) : Option Int32 := lim (sX0_countWrong S) (x0, x1, x2, x3, x4)
theorem qX0_countWrong_5 (S : MS) (x0 : Nat) (x1 : Nat) (x2 : Int32) (x3 : Int32) (x4 : Int32) : hX0_countWrong_5 S x0 x1 x2 x3 x4 = fin (sX0_countWrong S) (bX0_countWrong_5 S x0 x1 x2 x3 x4) := lim_eq _ _
noncomputable def fX0_countWrong (S : MS) (a0 : Nat) (a1 : Nat) (a2 : Int32) : Option Int32 := fin (sX0_countWrong S) (bX0_countWrong_0 S a0 a1 a2)
noncomputable def bX0_lengthOfLine_0 (S : MS) (x0 : Nat) (x1 : Int32) : Option ((Nat × Int32 × Int32 × Int32) ⊕ Int32) :=
  some (.inl (x0, x1, (0 : Int32), (0 : Int32)))
noncomputable def bX0_lengthOfLine_97 (S : MS) (x0 : Nat) (x1 : Int32) (x2 : Int32) (x3 : Int32) : Option ((Nat × Int32 × Int32 × Int32) ⊕ Int32) :=
  (some (x3 + 1)).bind fun v97 =>
  some (.inl (x0, x1, x2, v97))
noncomputable def bX0_lengthOfLine_89 (S : MS) (x0 : Nat) (x1 : Int32) (x2 : Int32) (x3 : Int32) (x4 : Int32) (z0 : Int32) : Option ((Nat × Int32 × Int32 × Int32) ⊕ Int32) :=
  if z0 = x4 then
    bX0_lengthOfLine_97 S x0 x1 x2 x3
  else
    (some (x2 + 1)).bind fun v94 =>
    bX0_lengthOfLine_97 S x0 x1 v94 x3
noncomputable def bX0_lengthOfLine_62 (S : MS) (x0 : Nat) (x1 : Int32) (x2 : Int32) (x3 : Int32) (x4 : Int32) : Option ((Nat × Int32 × Int32 × Int32) ⊕ Int32) :=
  if (11 : Int32) ≤ (x3 / (12 : Int32)) then
    bX0_lengthOfLine_97 S x0 x1 x2 x3
  else
    (o_gP S x0 1 4).bind fun v72 =>
    (o_ld S v72 12 (x3 + (12 : Int32))).bind fun v79 =>
    if x1 ≤ v79 then
      bX0_lengthOfLine_89 S x0 x1 x2 x3 x4 (0 : Int32)
    else
      bX0_lengthOfLine_89 S x0 x1 x2 x3 x4 (1 : Int32)
noncomputable def bX0_lengthOfLine_54 (S : MS) (x0 : Nat) (x1 : Int32) (x2 : Int32) (x3 : Int32) (x4 : Int32) (z0 : Int32) : Option ((Nat × Int32 × Int32 × Int32) ⊕ Int32) :=
  if z0 = x4 then
    bX0_lengthOfLine_62 S x0 x1 x2 x3 x4
  else
    (some (x2 + 1)).bind fun v59 =>
    bX0_lengthOfLine_62 S x0 x1 v59 x3 x4
noncomputable def bX0_lengthOfLine_26 (S : MS) (x0 : Nat) (x1 : Int32) (x2 : Int32) (x3 : Int32) (z0 : Int32) : Option ((Nat × Int32 × Int32 × Int32) ⊕ Int32) :=
  if (11 : Int32) ≤ (x3 - x3 / (12 : Int32) * (12 : Int32)) then
    bX0_lengthOfLine_62 S x0 x1 x2 x3 z0
  else
    (o_gP S x0 1 4).bind fun v38 =>
    (o_ld S v38 12 (x3 + (1 : Int32))).bind fun v44 =>
    if x1 ≤ v44 then
      bX0_lengthOfLine_54 S x0 x1 x2 x3 z0 (0 : Int32)
    else
      bX0_lengthOfLine_54 S x0 x1 x2 x3 z0 (1 : Int32)
noncomputable def bX0_lengthOfLine_4 (S : MS) (x0 : Nat) (x1 : Int32) (x2 : Int32) (x3 : Int32) : Option ((Nat × Int32 × Int32 × Int32) ⊕ Int32) :=
  if (144 : Int32) ≤ x3 then
    some (.inr x2)
  else
    (o_gP S x0 1 4).bind fun v12 =>
    (o_ld S v12 12 x3).bind fun v16 =>
    if x1 ≤ v16 then
      bX0_lengthOfLine_26 S x0 x1 x2 x3 (0 : Int32)
    else
      bX0_lengthOfLine_26 S x0 x1 x2 x3 (1 : Int32)
noncomputable def sX0_lengthOfLine (S : MS) : (Nat × Int32 × Int32 × Int32) → Option ((Nat × Int32 × Int32 × Int32) ⊕ Int32) := (fun t => bX0_lengthOfLine_4 S t.1 t.2.1 t.2.2.1 t.2.2.2)
noncomputable def hX0_lengthOfLine_4 (S : MS) (x0 : Nat) (x1 : Int32) (x2 : Int32) (x3 : Int32) : Option Int32 := lim (sX0_lengthOfLine S) (x0, x1, x2, x3)
theorem qX0_lengthOfLine_4 (S : MS) (x0 : Nat) (x1 : Int32) (x2 : Int32) (x3 : Int32) : hX0_lengthOfLine_4 S x0 x1 x2 x3 = fin (sX0_lengthOfLine S) (bX0_lengthOfLine_4 S x0 x1 x2 x3) := lim_eq _ _
noncomputable def fX0_lengthOfLine (S : MS) (a0 : Nat) (a1 : Int32) : Option Int32 := fin (sX0_lengthOfLine S) (bX0_lengthOfLine_0 S a0 a1)
noncomputable def bX9_line_20 (S : MS) : Option (Int32 × MS) :=
  some ((-2 : Int32), S)
noncomputable def bX9_line_0 (S : MS) (x0 : Nat) (x1 : Int32) (x2 : Int32) : Option (Int32 × MS) :=
  (fX9_isWithin x1 (0 : Int32) (20000 : Int32)).bind fun v5 =>
  if v5 = 0 then
    bX9_line_20 S
  else
    (fX9_isWithin x2 (0 : Int32) (4 : Int32)).bind fun v14 =>
    if v14 = 0 then
      bX9_line_20 S
    else
      (o_is S x0 10).bind fun _ =>
      b2 (fX9_settledChart S x0) fun v24 S24 =>
      (o_is S24 v24 1).bind fun _ =>
      (fX0_countValues S24 v24).bind fun v29 =>
      if v29 = 0 then
        some ((-3 : Int32), S24)
      else
        if x2 = (0 : Int32) then
          (o_is S24 v24 1).bind fun _ =>
          (fX0_lengthOfLine S24 v24 x1).bind fun v70 =>
          some (v70, S24)
        else
        if x2 = (1 : Int32) then
          (o_is S24 v24 1).bind fun _ =>
          b2 (fX0_countPieces S24 v24 x1 (1 : Int32)) fun v77 S77 =>
          some (v77, S77)
        else
        if x2 = (2 : Int32) then
          (o_is S24 v24 1).bind fun _ =>
          b2 (fX0_countPieces S24 v24 x1 (0 : Int32)) fun v84 S84 =>
          some (v84, S84)
        else
        if x2 = (3 : Int32) then
          (o_is S24 v24 1).bind fun _ =>
          (fX0_countBelow S24 v24 x1).bind fun v90 =>
          some (v90, S24)
        else
        (o_gP S24 x0 10 0).bind fun v96 =>
        (o_is S24 v24 1).bind fun _ =>
        (fX0_countWrong S24 v24 v96 x1).bind fun v100 =>
        some (v100, S24)
noncomputable def fX9_line (S : MS) (a0 : Nat) (a1 : Int32) (a2 : Int32) : Option (Int32 × MS) := bX9_line_0 S a0 a1 a2
noncomputable def bX1_latestReadable_0 (S : MS) (x0 : Nat) (x1 : Int32) : Option ((Nat × Int32 × Int32 × Int32 × Int32 × Int32) ⊕ Int32) :=
  some (.inl (x0, x1, (-9 : Int32), (0 : Int32), (0 : Int32), (0 : Int32)))
noncomputable def bX1_latestReadable_123 (S : MS) (x0 : Nat) (x1 : Int32) (x2 : Int32) (x3 : Int32) (x4 : Int32) (x5 : Int32) : Option ((Nat × Int32 × Int32 × Int32 × Int32 × Int32) ⊕ Int32) :=
  (some (x5 + 1)).bind fun v123 =>
  some (.inl (x0, x1, x2, x3, x4, v123))
noncomputable def bX1_latestReadable_121 (S : MS) (x0 : Nat) (x1 : Int32) (x2 : Int32) (x3 : Int32) (x5 : Int32) (z0 : Int32) : Option ((Nat × Int32 × Int32 × Int32 × Int32 × Int32) ⊕ Int32) :=
  bX1_latestReadable_123 S x0 x1 x2 x3 z0 x5
noncomputable def bX1_latestReadable_97 (S : MS) (x0 : Nat) (x1 : Int32) (x5 : Int32) (x6 : Nat) : Option ((Nat × Int32 × Int32 × Int32 × Int32 × Int32) ⊕ Int32) :=
  (o_gI S x6 9 2).bind fun v102 =>
  (o_gP S x6 9 5).bind fun v108 =>
  (o_ld S v108 12 (1 : Int32)).bind fun v112 =>
  if v112 ≤ 0 then
    bX1_latestReadable_121 S x0 x1 x5 v102 x5 (0 : Int32)
  else
    bX1_latestReadable_121 S x0 x1 x5 v102 x5 (1 : Int32)
noncomputable def bX1_latestReadable_75 (S : MS) (x0 : Nat) (x1 : Int32) (x2 : Int32) (x3 : Int32) (x4 : Int32) (x5 : Int32) (x6 : Nat) (z0 : Int32) : Option ((Nat × Int32 × Int32 × Int32 × Int32 × Int32) ⊕ Int32) :=
  if z0 = 0 then
    bX1_latestReadable_123 S x0 x1 x2 x3 x4 x5
  else
    if x2 = (-9 : Int32) then
      bX1_latestReadable_97 S x0 x1 x5 x6
    else
      (o_gI S x6 9 2).bind fun v90 =>
      if v90 < x3 then
        bX1_latestReadable_123 S x0 x1 x2 x3 x4 x5
      else
        bX1_latestReadable_97 S x0 x1 x5 x6
noncomputable def bX1_latestReadable_74 (S : MS) (x0 : Nat) (x1 : Int32) (x2 : Int32) (x3 : Int32) (x4 : Int32) (x5 : Int32) (x6 : Nat) : Option ((Nat × Int32 × Int32 × Int32 × Int32 × Int32) ⊕ Int32) :=
  bX1_latestReadable_75 S x0 x1 x2 x3 x4 x5 x6 (0 : Int32)
noncomputable def bX1_latestReadable_140 (S : MS) (z0 : Int32) : Option ((Nat × Int32 × Int32 × Int32 × Int32 × Int32) ⊕ Int32) :=
  some (.inr z0)
noncomputable def bX1_latestReadable_11 (S : MS) (x0 : Nat) (x1 : Int32) (x2 : Int32) (x3 : Int32) (x4 : Int32) (x5 : Int32) : Option ((Nat × Int32 × Int32 × Int32 × Int32 × Int32) ⊕ Int32) :=
  (o_gP S x0 2 1).bind fun v14 =>
  (o_is S v14 0).bind fun _ =>
  (fJx4a65c_size_8abf5 S v14).bind fun v17 =>
  if v17 ≤ x5 then
    if x4 = 0 then
      bX1_latestReadable_140 S (-9 : Int32)
    else
      bX1_latestReadable_140 S x2
  else
    (o_gP S x0 2 1).bind fun v24 =>
    (o_is S v24 0).bind fun _ =>
    (fJx4a65c_get_915e3 S v24 x5).bind fun v29 =>
    (o_is S v29 9).bind fun v32 =>
    (o_gI S v32 9 0).bind fun v39 =>
    if v39 = x1 then
      (o_gI S v32 9 1).bind fun v48 =>
      (o_gI S x0 2 2).bind fun v52 =>
      if v48 = v52 then
        (o_gI S v32 9 2).bind fun v60 =>
        (o_gI S x0 2 3).bind fun v64 =>
        if v64 < v60 then
          bX1_latestReadable_74 S x0 x1 x2 x3 x4 x5 v32
        else
          bX1_latestReadable_75 S x0 x1 x2 x3 x4 x5 v32 (1 : Int32)
      else
        bX1_latestReadable_74 S x0 x1 x2 x3 x4 x5 v32
    else
      bX1_latestReadable_74 S x0 x1 x2 x3 x4 x5 v32
noncomputable def sX1_latestReadable (S : MS) : (Nat × Int32 × Int32 × Int32 × Int32 × Int32) → Option ((Nat × Int32 × Int32 × Int32 × Int32 × Int32) ⊕ Int32) := (fun t => bX1_latestReadable_11 S t.1 t.2.1 t.2.2.1 t.2.2.2.1 t.2.2.2.2.1 t.2.2.2.2.2)
noncomputable def hX1_latestReadable_11 (S : MS) (x0 : Nat) (x1 : Int32) (x2 : Int32) (x3 : Int32) (x4 : Int32) (x5 : Int32) : Option Int32 := lim (sX1_latestReadable S) (x0, x1, x2, x3, x4, x5)
theorem qX1_latestReadable_11 (S : MS) (x0 : Nat) (x1 : Int32) (x2 : Int32) (x3 : Int32) (x4 : Int32) (x5 : Int32) : hX1_latestReadable_11 S x0 x1 x2 x3 x4 x5 = fin (sX1_latestReadable S) (bX1_latestReadable_11 S x0 x1 x2 x3 x4 x5) := lim_eq _ _
noncomputable def fX1_latestReadable (S : MS) (a0 : Nat) (a1 : Int32) : Option Int32 := fin (sX1_latestReadable S) (bX1_latestReadable_0 S a0 a1)
noncomputable def bX6_along_58 (S : MS) (z0 : Int32) : Option Int32 :=
  some z0
noncomputable def bX6_along_0 (S : MS) (x0 : Nat) (x1 : Int32) (x2 : Int32) (x3 : Int32) : Option Int32 :=
  (o_gI S x0 7 0).bind fun v1 =>
  if v1 = 0 then
    some x1
  else
    (fJ9_floorDiv_7cf53 (x2 * x3) (10 : Int32)).bind fun v15 =>
    (some ((x1 + v15))).bind fun v19 =>
    (o_gI S x0 7 0).bind fun v22 =>
    if v22 = (1 : Int32) then
      some v19
    else
      (fJ9_floorMod_7cf53 v19 (22 : Int32)).bind fun v36 =>
      if v36 ≤ (11 : Int32) then
        bX6_along_58 S v36
      else
        bX6_along_58 S ((22 : Int32) - v36)
noncomputable def fX6_along (S : MS) (a0 : Nat) (a1 : Int32) (a2 : Int32) (a3 : Int32) : Option Int32 := bX6_along_0 S a0 a1 a2 a3
noncomputable def bX6_placeAt_47 (S : MS) (z0 : Int32) : Option Int32 :=
  some z0
noncomputable def bX6_placeAt_0 (S : MS) (x0 : Nat) (x1 : Int32) : Option Int32 :=
  (o_gI S x0 7 1).bind fun v2 =>
  (o_gI S x0 7 4).bind fun v6 =>
  (o_is S x0 7).bind fun _ =>
  (fX6_along S x0 v2 v6 x1).bind fun v10 =>
  (o_gI S x0 7 2).bind fun v16 =>
  (o_gI S x0 7 5).bind fun v20 =>
  (o_is S x0 7).bind fun _ =>
  (fX6_along S x0 v16 v20 x1).bind fun v24 =>
  (fX9_isPlace v10 v24).bind fun v30 =>
  if v30 = 0 then
    bX6_placeAt_47 S (-9 : Int32)
  else
    bX6_placeAt_47 S (((12 : Int32) * v24) + v10)
noncomputable def fX6_placeAt (S : MS) (a0 : Nat) (a1 : Int32) : Option Int32 := bX6_placeAt_0 S a0 a1
noncomputable def bX8_readingAt_0 (S : MS) (x0 : Nat) (x1 : Int32) (x2 : Int32) : Option ((Nat × Int32 × Int32 × Int32 × Int32 × Int32) ⊕ Int32) :=
  (o_is S x0 9).bind fun _ =>
  (fX8_countFillings S x0 x1).bind fun v4 =>
  some (.inl (x0, x1, x2, (0 : Int32), v4, (0 : Int32)))
noncomputable def bX8_readingAt_46 (S : MS) (x0 : Nat) (x1 : Int32) (x2 : Int32) (x3 : Int32) (x4 : Int32) (x5 : Int32) : Option ((Nat × Int32 × Int32 × Int32 × Int32 × Int32) ⊕ Int32) :=
  (some (x5 + 1)).bind fun v46 =>
  some (.inl (x0, x1, x2, x3, x4, v46))
noncomputable def bX8_readingAt_12 (S : MS) (x0 : Nat) (x1 : Int32) (x2 : Int32) (x3 : Int32) (x4 : Int32) (x5 : Int32) : Option ((Nat × Int32 × Int32 × Int32 × Int32 × Int32) ⊕ Int32) :=
  if x4 ≤ x5 then
    some (.inr (-9 : Int32))
  else
    (o_is S x0 9).bind fun _ =>
    (fX8_filled S x0 x1 x5).bind fun v23 =>
    if v23 = (-9 : Int32) then
      bX8_readingAt_46 S x0 x1 x2 x3 x4 x5
    else
      if x3 = x2 then
        some (.inr v23)
      else
        (some (x3 + 1)).bind fun v43 =>
        bX8_readingAt_46 S x0 x1 x2 v43 x4 x5
noncomputable def sX8_readingAt (S : MS) : (Nat × Int32 × Int32 × Int32 × Int32 × Int32) → Option ((Nat × Int32 × Int32 × Int32 × Int32 × Int32) ⊕ Int32) := (fun t => bX8_readingAt_12 S t.1 t.2.1 t.2.2.1 t.2.2.2.1 t.2.2.2.2.1 t.2.2.2.2.2)
noncomputable def hX8_readingAt_12 (S : MS) (x0 : Nat) (x1 : Int32) (x2 : Int32) (x3 : Int32) (x4 : Int32) (x5 : Int32) : Option Int32 := lim (sX8_readingAt S) (x0, x1, x2, x3, x4, x5)
theorem qX8_readingAt_12 (S : MS) (x0 : Nat) (x1 : Int32) (x2 : Int32) (x3 : Int32) (x4 : Int32) (x5 : Int32) : hX8_readingAt_12 S x0 x1 x2 x3 x4 x5 = fin (sX8_readingAt S) (bX8_readingAt_12 S x0 x1 x2 x3 x4 x5) := lim_eq _ _
noncomputable def fX8_readingAt (S : MS) (a0 : Nat) (a1 : Int32) (a2 : Int32) : Option Int32 := fin (sX8_readingAt S) (bX8_readingAt_0 S a0 a1 a2)
noncomputable def bX1_look_0 (S : MS) (x0 : Nat) : Option ((Nat × Int32 × MS) ⊕ MS) :=
  (o_sI S x0 2 7 (0 : Int32)).bind fun S2 =>
  (o_sI S2 x0 2 8 (0 : Int32)).bind fun S7 =>
  some (.inl (x0, (0 : Int32), S7))
noncomputable def bX1_look_152 (S : MS) (x0 : Nat) (x1 : Int32) : Option ((Nat × Int32 × MS) ⊕ MS) :=
  (some (x1 + 1)).bind fun v152 =>
  some (.inl (x0, v152, S))
noncomputable def bX1_look_73 (S : MS) (x0 : Nat) (x1 : Int32) (z0 : Nat) (z1 : Int32) (z2 : Int32) : Option ((Nat × Int32 × MS) ⊕ MS) :=
  (o_st S z0 12 z1 z2).bind fun S73 =>
  (o_gP S73 x0 2 5).bind fun v75 =>
  (o_ld S73 v75 12 x1).bind fun v79 =>
  if v79 = (-9 : Int32) then
    bX1_look_152 S73 x0 x1
  else
    (o_gI S73 x0 2 7).bind fun v87 =>
    (o_sI S73 x0 2 7 (v87 ||| ((1 : Int32) <<< (x1 &&& 31)))).bind fun S94 =>
    (o_gP S94 x0 2 1).bind fun v98 =>
    (o_gP S94 x0 2 5).bind fun v102 =>
    (o_ld S94 v102 12 x1).bind fun v106 =>
    (o_is S94 v98 0).bind fun _ =>
    (fJx4a65c_get_915e3 S94 v98 v106).bind fun v107 =>
    (o_is S94 v107 9).bind fun v110 =>
    (o_gP S94 v110 9 5).bind fun v115 =>
    (o_ld S94 v115 12 (1 : Int32)).bind fun v119 =>
    if v119 = (1 : Int32) then
      (o_gI S94 x0 2 8).bind fun v126 =>
      (o_sI S94 x0 2 8 (v126 ||| ((1 : Int32) <<< (x1 &&& 31)))).bind fun S133 =>
      (o_gP S133 x0 2 6).bind fun v137 =>
      (o_is S133 v110 9).bind fun _ =>
      (fX8_readingAt S133 v110 (1 : Int32) (0 : Int32)).bind fun v145 =>
      (o_is S133 v110 9).bind fun _ =>
      (fX8_levelOf S133 v110 v145).bind fun v148 =>
      (o_st S133 v137 12 x1 v148).bind fun S151 =>
      bX1_look_152 S151 x0 x1
    else
      bX1_look_152 S94 x0 x1
noncomputable def bX1_look_12 (S : MS) (x0 : Nat) (x1 : Int32) : Option ((Nat × Int32 × MS) ⊕ MS) :=
  (o_gP S x0 2 0).bind fun v14 =>
  (o_is S v14 0).bind fun _ =>
  (fJx4a65c_size_8abf5 S v14).bind fun v17 =>
  if v17 ≤ x1 then
    some (.inr S)
  else
    (o_gP S x0 2 4).bind fun v24 =>
    (o_gP S x0 2 0).bind fun v29 =>
    (o_is S v29 0).bind fun _ =>
    (fJx4a65c_get_915e3 S v29 x1).bind fun v33 =>
    (o_is S v33 7).bind fun v36 =>
    (o_gI S x0 2 2).bind fun v40 =>
    (o_is S v36 7).bind fun _ =>
    (fX6_placeAt S v36 v40).bind fun v43 =>
    (o_st S v24 12 x1 v43).bind fun S46 =>
    (o_gP S46 x0 2 5).bind fun v48 =>
    (o_gP S46 x0 2 4).bind fun v53 =>
    (o_ld S46 v53 12 x1).bind fun v57 =>
    if v57 = (-9 : Int32) then
      bX1_look_73 S46 x0 x1 v48 x1 (-9 : Int32)
    else
      (o_is S46 x0 2).bind fun _ =>
      (fX1_latestReadable S46 x0 x1).bind fun v70 =>
      bX1_look_73 S46 x0 x1 v48 x1 v70
noncomputable def sX1_look : (Nat × Int32 × MS) → Option ((Nat × Int32 × MS) ⊕ MS) := (fun t => bX1_look_12 t.2.2 t.1 t.2.1)
noncomputable def hX1_look_12 (S : MS) (x0 : Nat) (x1 : Int32) : Option MS := lim (sX1_look) (x0, x1, S)
theorem qX1_look_12 (S : MS) (x0 : Nat) (x1 : Int32) : hX1_look_12 S x0 x1 = fin (sX1_look) (bX1_look_12 S x0 x1) := lim_eq _ _
noncomputable def fX1_look (S : MS) (a0 : Nat) : Option MS := fin (sX1_look) (bX1_look_0 S a0)
noncomputable def bX9_lookAgain_0 (S : MS) (x0 : Nat) : Option MS :=
  (o_gP S x0 10 0).bind fun v1 =>
  (o_is S v1 2).bind fun _ =>
  (fX1_look S v1).bind fun S4 =>
  (o_sI S4 x0 10 2 (1 : Int32)).bind fun S9 =>
  some S9
noncomputable def fX9_lookAgain (S : MS) (a0 : Nat) : Option MS := bX9_lookAgain_0 S a0
noncomputable def bX7_drop_0 (S : MS) (x0 : Nat) : Option MS :=
  (o_sI S x0 8 0 (-1 : Int32)).bind fun S2 =>
  (o_sI S2 x0 8 1 (0 : Int32)).bind fun S7 =>
  some S7
noncomputable def fX7_drop (S : MS) (a0 : Nat) : Option MS := bX7_drop_0 S a0
noncomputable def bX9_lose_0 (S : MS) (x0 : Nat) (x1 : Int32) : Option (Int32 × MS) :=
  (fX9_isSheet x1).bind fun v1 =>
  if v1 = 0 then
    some ((-1 : Int32), S)
  else
    (o_gP S x0 10 10).bind fun v10 =>
    (o_ldP S v10 14 x1).bind fun v14 =>
    (o_is S v14 8).bind fun _ =>
    (fX7_isEmpty S v14).bind fun v15 =>
    if v15 = 0 then
      (o_gP S x0 10 10).bind fun v24 =>
      (o_ldP S v24 14 x1).bind fun v28 =>
      (o_is S v28 8).bind fun _ =>
      (fX7_drop S v28).bind fun S29 =>
      some ((1 : Int32), S29)
    else
      some ((0 : Int32), S)
noncomputable def fX9_lose (S : MS) (a0 : Nat) (a1 : Int32) : Option (Int32 × MS) := bX9_lose_0 S a0 a1
noncomputable def bX9_many_0 (S : MS) (x0 : Nat) (x1 : Int32) : Option Int32 :=
  if x1 = (0 : Int32) then
    (o_gP S x0 10 0).bind fun v53 =>
    (o_gP S v53 2 0).bind fun v56 =>
    (o_is S v56 0).bind fun _ =>
    (fJx4a65c_size_8abf5 S v56).bind fun v59 =>
    some v59
  else
  if x1 = (1 : Int32) then
    (o_gP S x0 10 0).bind fun v64 =>
    (o_gP S v64 2 1).bind fun v67 =>
    (o_is S v67 0).bind fun _ =>
    (fJx4a65c_size_8abf5 S v67).bind fun v70 =>
    some v70
  else
  if x1 = (2 : Int32) then
    (o_gP S x0 10 0).bind fun v75 =>
    (o_gI S v75 2 7).bind fun v78 =>
    (fJ6_bitCount_0f7a4 v78).bind fun v81 =>
    some v81
  else
  if x1 = (3 : Int32) then
    (o_gP S x0 10 3).bind fun v86 =>
    (o_is S v86 0).bind fun _ =>
    (fJx4a65c_size_8abf5 S v86).bind fun v89 =>
    some v89
  else
  if x1 = (4 : Int32) then
    (o_gP S x0 10 4).bind fun v94 =>
    (o_is S v94 0).bind fun _ =>
    (fJx4a65c_size_8abf5 S v94).bind fun v97 =>
    some v97
  else
  if x1 = (5 : Int32) then
    (o_gP S x0 10 9).bind fun v102 =>
    (o_is S v102 0).bind fun _ =>
    (fJx4a65c_size_8abf5 S v102).bind fun v105 =>
    some v105
  else
  if x1 = (6 : Int32) then
    (o_gP S x0 10 0).bind fun v110 =>
    (o_gI S v110 2 2).bind fun v113 =>
    some v113
  else
  if x1 = (7 : Int32) then
    (o_gP S x0 10 0).bind fun v118 =>
    (o_gI S v118 2 3).bind fun v121 =>
    some v121
  else
  if x1 = (8 : Int32) then
    (o_is S x0 10).bind fun _ =>
    (fX9_countKept S x0).bind fun v126 =>
    some v126
  else
  some (-2 : Int32)
noncomputable def fX9_many (S : MS) (a0 : Nat) (a1 : Int32) : Option Int32 := bX9_many_0 S a0 a1
noncomputable def bX1_mendedPress_0 (S : MS) (x0 : Nat) (x1 : Nat) : Option Int32 :=
  (o_is S x0 2).bind fun _ =>
  (fX1_guessFor S x0 x1).bind fun v3 =>
  (o_is S x1 9).bind fun _ =>
  (fX8_nearestPress S x1 v3).bind fun v6 =>
  some v6
noncomputable def fX1_mendedPress (S : MS) (a0 : Nat) (a1 : Nat) : Option Int32 := bX1_mendedPress_0 S a0 a1
noncomputable def bX9_mended_51 (S : MS) : Option Int32 :=
  some (-3 : Int32)
noncomputable def bX9_mended_0 (S : MS) (x0 : Nat) (x1 : Int32) : Option Int32 :=
  (o_is S x0 10).bind fun _ =>
  (fX9_isWire S x0 x1).bind fun v2 =>
  if v2 = 0 then
    some (-1 : Int32)
  else
    (o_gP S x0 10 0).bind fun v11 =>
    (o_gP S v11 2 1).bind fun v14 =>
    (o_is S v14 0).bind fun _ =>
    (fJx4a65c_get_915e3 S v14 x1).bind fun v18 =>
    (o_is S v18 9).bind fun v21 =>
    (o_gP S x0 10 0).bind fun v26 =>
    (o_gP S v26 2 4).bind fun v29 =>
    (o_gI S v21 9 0).bind fun v33 =>
    (o_ld S v29 12 v33).bind fun v36 =>
    if v36 = (-9 : Int32) then
      bX9_mended_51 S
    else
      (o_gP S v21 9 5).bind fun v43 =>
      (o_ld S v43 12 (1 : Int32)).bind fun v47 =>
      if v47 = 0 then
        bX9_mended_51 S
      else
        (o_gP S x0 10 0).bind fun v55 =>
        (o_is S v55 2).bind fun _ =>
        (fX1_mendedPress S v55 v21).bind fun v59 =>
        some v59
noncomputable def fX9_mended (S : MS) (a0 : Nat) (a1 : Int32) : Option Int32 := bX9_mended_0 S a0 a1
noncomputable def bX9_night_0 (S : MS) (x0 : Nat) : Option (Int32 × MS) :=
  (o_gP S x0 10 3).bind fun v1 =>
  (o_gP S x0 10 4).bind fun v7 =>
  (o_sP S x0 10 3 v7).bind fun S10 =>
  (o_is S10 v1 0).bind fun _ =>
  (fJx4a65c_clear_da8c8 S10 v1).bind fun S14 =>
  (o_sP S14 x0 10 4 v1).bind fun S19 =>
  (o_gP S19 x0 10 3).bind fun v23 =>
  (o_is S19 v23 0).bind fun _ =>
  (fJx4a65c_size_8abf5 S19 v23).bind fun v26 =>
  some (v26, S19)
noncomputable def fX9_night (S : MS) (a0 : Nat) : Option (Int32 × MS) := bX9_night_0 S a0
noncomputable def bX9_place_0 (S : MS) (x0 : Nat) (x1 : Int32) (x2 : Int32) : Option Int32 :=
  (o_is S x0 10).bind fun _ =>
  (fX9_isPost S x0 x1).bind fun v2 =>
  if v2 = 0 then
    some (-1 : Int32)
  else
    (fX9_isWithin x2 (0 : Int32) (99 : Int32)).bind fun v14 =>
    if v14 = 0 then
      some (-2 : Int32)
    else
      (o_gP S x0 10 0).bind fun v24 =>
      (o_gP S v24 2 0).bind fun v27 =>
      (o_is S v27 0).bind fun _ =>
      (fJx4a65c_get_915e3 S v27 x1).bind fun v31 =>
      (o_is S v31 7).bind fun v34 =>
      (o_is S v34 7).bind fun _ =>
      (fX6_placeAt S v34 x2).bind fun v38 =>
      some v38
noncomputable def fX9_place (S : MS) (a0 : Nat) (a1 : Int32) (a2 : Int32) : Option Int32 := bX9_place_0 S a0 a1 a2
noncomputable def bX6_init_0 (S : MS) (x0 : Nat) (x1 : Int32) (x2 : Int32) (x3 : Int32) (x4 : Int32) (x5 : Int32) (x6 : Int32) : Option MS :=
  (o_sI S x0 7 0 x1).bind fun S6 =>
  (o_sI S6 x0 7 1 x2).bind fun S11 =>
  (o_sI S11 x0 7 2 x3).bind fun S16 =>
  (o_sI S16 x0 7 3 x4).bind fun S22 =>
  (o_sI S22 x0 7 4 x5).bind fun S28 =>
  (o_sI S28 x0 7 5 x6).bind fun S34 =>
  some S34
noncomputable def fX6_init (S : MS) (a0 : Nat) (a1 : Int32) (a2 : Int32) (a3 : Int32) (a4 : Int32) (a5 : Int32) (a6 : Int32) : Option MS := bX6_init_0 S a0 a1 a2 a3 a4 a5 a6
noncomputable def bX9_post_28 (S : MS) : Option (Int32 × MS) :=
  some ((-2 : Int32), S)
noncomputable def bX9_post_55 (S : MS) : Option (Int32 × MS) :=
  some ((-2 : Int32), S)
noncomputable def bX9_post_0 (S : MS) (x0 : Nat) (x1 : Int32) (x2 : Int32) (x3 : Int32) (x4 : Int32) (x5 : Int32) (x6 : Int32) : Option (Int32 × MS) :=
  (fX9_isBelow x1 (3 : Int32)).bind fun v2 =>
  if v2 = 0 then
    bX9_post_28 S
  else
    (fX9_isPlace x2 x3).bind fun v10 =>
    if v10 = 0 then
      bX9_post_28 S
    else
      (fX9_isWithin x4 (0 : Int32) (3000 : Int32)).bind fun v22 =>
      if v22 = 0 then
        bX9_post_28 S
      else
        (fX9_isWithin x5 (-20 : Int32) (20 : Int32)).bind fun v37 =>
        if v37 = 0 then
          bX9_post_55 S
        else
          (fX9_isWithin x6 (-20 : Int32) (20 : Int32)).bind fun v49 =>
          if v49 = 0 then
            bX9_post_55 S
          else
            (o_gP S x0 10 0).bind fun v59 =>
            (o_gP S v59 2 0).bind fun v62 =>
            (o_is S v62 0).bind fun _ =>
            (fJx4a65c_size_8abf5 S v62).bind fun v65 =>
            if v65 < (12 : Int32) then
              (o_gP S x0 10 0).bind fun v77 =>
              (o_gP S v77 2 0).bind fun v80 =>
              (some (m_n S + 1)).bind fun o83 =>
              (some (m_new S 7 0)).bind fun S83 =>
              (fX6_init S83 o83 x1 x2 x3 x4 x5 x6).bind fun S96 =>
              (o_is S96 v80 0).bind fun _ =>
              b2 (fJx4a65c_add_9ea2d S96 v80 o83) fun v99 S99 =>
              (o_is S99 x0 10).bind fun _ =>
              (fX9_lookAgain S99 x0).bind fun S104 =>
              (o_gP S104 x0 10 0).bind fun v108 =>
              (o_gP S104 v108 2 0).bind fun v111 =>
              (o_is S104 v111 0).bind fun _ =>
              (fJx4a65c_size_8abf5 S104 v111).bind fun v114 =>
              some ((v114 - (1 : Int32)), S104)
            else
              some ((-4 : Int32), S)
noncomputable def fX9_post (S : MS) (a0 : Nat) (a1 : Int32) (a2 : Int32) (a3 : Int32) (a4 : Int32) (a5 : Int32) (a6 : Int32) : Option (Int32 × MS) := bX9_post_0 S a0 a1 a2 a3 a4 a5 a6
set_option maxHeartbeats 4000000 in
set_option maxRecDepth 100000 in
theorem wX9_level_51 {p : Program} {l : Launch} {e : Env} {s : State} {m : MethodId} {args : Array Value} {below : List Frame} {meth : Method} {c : Code} {D : va_G} {cy : Nat → ClassId} (ad : Nat → Nat) (A : Nat → Prop) {S : MS} {r : Int32} {ls : Array Slot} (C0 : CX p s m args meth c RX9 cX9_level 3 D cy) (M : MW D cy ad A S s.heap) (hr : meth.sig.returnType = some .int) (hF : bX9_level_51 S = some r) (hl : lv_has ls 3 []) : W p l e rmX9_level s m args below meth c s.heap [] 0 0 (MQ below (QcS (some (.int r))) args s 0 0 (fun _ => False)) (F0 m 51 ls []) := by
  unfold bX9_level_51 at hF
  obtain ⟨hx, hb, -, hown, -, hts, -⟩ := id C0
  refine lv_bipush (v := (-3 : Int32)) hx hb dX9_level_51 (by decide) ?_
  obtain rfl := (Option.some.inj hF)
  exact rt_SI C0 hr dX9_level_53
set_option maxHeartbeats 4000000 in
set_option maxRecDepth 100000 in
theorem wX9_level_0 {p : Program} {l : Launch} {e : Env} {s : State} {m : MethodId} {args : Array Value} {below : List Frame} {meth : Method} {c : Code} {D : va_G} {cy : Nat → ClassId} (ad : Nat → Nat) (A : Nat → Prop) {S : MS} {r : Int32} {ls : Array Slot} {x0 : Nat} {x1 : Int32} (C0 : CX p s m args meth c RX9 cX9_level 3 D cy) (M : MW D cy ad A S s.heap) (hr : meth.sig.returnType = some .int) (hF : bX9_level_0 S x0 x1 = some r) (hl : lv_has ls 3 [(0, .ref (ad x0)), (1, .int x1)]) : W p l e rmX9_level s m args below meth c s.heap [] 0 0 (MQ below (QcS (some (.int r))) args s 0 0 (fun _ => False)) (F0 m 0 ls []) := by
  unfold bX9_level_0 at hF
  obtain ⟨hx, hb, -, hown, -, hts, -⟩ := id C0
  refine lv_aload_n hx hb dX9_level_0 rfl (lv_at hl 0 rfl) ?_
  refine lv_iload_n hx hb dX9_level_1 rfl (lv_at hl 1 rfl) ?_
  obtain ⟨_, hrec, hF⟩ := ob hF
  obtain ⟨v2, hcl, hF⟩ := ob hF
  refine go_SI (r_V (rest := []) (As := [.int x1]) C0 cb_X9_179 M hrec (tX9_isWire l D cy ad A hcl) (pre_R C0 M) hl dX9_level_2 rfl (Nat.le_of_ble_eq_true rfl) ⟨rfl, rfl⟩ ⟨Nat.le_of_ble_eq_true rfl, Nat.le_of_ble_eq_true rfl⟩ ⟨Nat.le_of_ble_eq_true rfl, Nat.le_of_ble_eq_true rfl⟩ rfl) ?_
  refine lv_if_ne (tgt := 10) hx hb dX9_level_5 (by decide) (fun hc => ?_) (fun hc => ?_)
  · have hF := oi_f hc hF
    refine lv_aload_n hx hb dX9_level_10 rfl (lv_at hl 0 rfl) ?_
    obtain ⟨v11, hv, hF⟩ := ob hF
    refine k_getP C0 M hv fl_X9_12 dX9_level_11 ?_
    obtain ⟨v14, hv, hF⟩ := ob hF
    refine k_getP C0 M hv fl_X9_165 dX9_level_14 ?_
    refine lv_iload_n hx hb dX9_level_17 rfl (lv_at hl 1 rfl) ?_
    obtain ⟨_, hrec, hF⟩ := ob hF
    obtain ⟨v18, hcl, hF⟩ := ob hF
    refine go_SP (r_V (rest := []) (As := [.int x1]) C0 cb_X9_113 M hrec (tJx4a65c_get_915e3 l D cy ad A hcl) (pre_R C0 M) hl dX9_level_18 rfl (Nat.le_of_ble_eq_true rfl) ⟨rfl, rfl⟩ ⟨Nat.le_of_ble_eq_true rfl, Nat.le_of_ble_eq_true rfl⟩ ⟨Nat.le_of_ble_eq_true rfl, Nat.le_of_ble_eq_true rfl⟩ rfl) ?_
    obtain ⟨v21, hv, hF⟩ := ob hF
    refine k_cast (C := RX8) (T := TX8) (N := 6) C0 M hv (by decide) rfl (uw_of 603 (by decide +kernel) rfl) dX9_level_21 ?_
    refine lv_astore_n (lv' := [(2, .ref (ad v21)), (0, .ref (ad x0)), (1, .int x1)]) hx hb dX9_level_24 rfl hl (by decide) rfl (fun ls hl => ?_)
    refine lv_aload_n hx hb dX9_level_25 rfl (lv_at hl 1 rfl) ?_
    obtain ⟨v26, hv, hF⟩ := ob hF
    refine k_getP C0 M hv fl_X9_12 dX9_level_26 ?_
    obtain ⟨v29, hv, hF⟩ := ob hF
    refine k_getP C0 M hv fl_X9_213 dX9_level_29 ?_
    refine lv_aload_n hx hb dX9_level_32 rfl (lv_at hl 0 rfl) ?_
    obtain ⟨v33, hv, hF⟩ := ob hF
    refine k_getI C0 M hv fl_X9_182 dX9_level_33 ?_
    obtain ⟨v36, hv, hF⟩ := ob hF
    refine k_ld C0 M hv dX9_level_36 ?_
    refine lv_bipush (v := (-9 : Int32)) hx hb dX9_level_37 (by decide) ?_
    refine lv_icmp_eq (tgt := 51) hx hb dX9_level_39 (by decide) (fun hc => ?_) (fun hc => ?_)
    · have hF := oi_t hc hF
      exact wX9_level_51 ad A C0 M hr hF (lv_sub hl [] rfl)
    · have hF := oi_f hc hF
      refine lv_aload_n hx hb dX9_level_42 rfl (lv_at hl 0 rfl) ?_
      obtain ⟨v43, hv, hF⟩ := ob hF
      refine k_getP C0 M hv fl_X9_194 dX9_level_43 ?_
      refine lv_iconst (v := (1 : Int32)) hx hb dX9_level_46 (by decide) ?_
      obtain ⟨v47, hv, hF⟩ := ob hF
      refine k_ld C0 M hv dX9_level_47 ?_
      refine lv_if_ne (tgt := 54) hx hb dX9_level_48 (by decide) (fun hc => ?_) (fun hc => ?_)
      · have hF := oi_f hc hF
        refine lv_aload_n hx hb dX9_level_54 rfl (lv_at hl 1 rfl) ?_
        obtain ⟨v55, hv, hF⟩ := ob hF
        refine k_getP C0 M hv fl_X9_12 dX9_level_55 ?_
        refine lv_aload_n hx hb dX9_level_58 rfl (lv_at hl 0 rfl) ?_
        obtain ⟨_, hrec, hF⟩ := ob hF
        obtain ⟨v59, hcl, hF⟩ := ob hF
        refine go_SI (r_V (rest := []) (As := [.ref (ad v21)]) C0 cb_X9_223 M hrec (tX1_mendedLevel l D cy ad A hcl) (pre_R C0 M) hl dX9_level_59 rfl (Nat.le_of_ble_eq_true rfl) ⟨rfl, rfl⟩ ⟨Nat.le_of_ble_eq_true rfl, Nat.le_of_ble_eq_true rfl⟩ ⟨Nat.le_of_ble_eq_true rfl, Nat.le_of_ble_eq_true rfl⟩ rfl) ?_
        obtain rfl := (Option.some.inj hF)
        exact rt_SI C0 hr dX9_level_62
      · have hF := oi_t hc hF
        exact wX9_level_51 ad A C0 M hr hF (lv_sub hl [] rfl)
  · have hF := oi_t hc hF
    refine lv_iconst (v := (-1 : Int32)) hx hb dX9_level_8 (by decide) ?_
    obtain rfl := (Option.some.inj hF)
    exact rt_SI C0 hr dX9_level_9
set_option maxHeartbeats 4000000 in
set_option maxRecDepth 100000 in
theorem tX9_level (l : Launch) (D : va_G) (cy : Nat → ClassId) (ad : Nat → Nat) (A : Nat → Prop) {S : MS} {a0 : Nat} {a1 : Int32} {r : Int32} (h : fX9_level S a0 a1 = some r) : Met l yX9_level [Cond.code yX9_level cX9_level 3 (some .int)] rmX9_level (PcR D cy ad A S [.ref (ad a0), .int a1]) (QcS (some (.int r))) 0 0 (fun _ => False) := by
  refine met_R (by decide +kernel) cw_X9_level (Nat.le_of_ble_eq_true rfl) ?_
  intro p e s m args below meth c ls C0 M hr hl
  have hl : lv_has ls 3 [(0, .ref (ad a0)), (1, .int a1)] := hl
  exact wX9_level_0 ad A C0 M hr h hl
set_option maxHeartbeats 4000000 in
set_option maxRecDepth 100000 in
theorem wX0_countBelow_0 {p : Program} {l : Launch} {e : Env} {s : State} {m : MethodId} {args : Array Value} {below : List Frame} {meth : Method} {c : Code} {D : va_G} {cy : Nat → ClassId} (ad : Nat → Nat) (A : Nat → Prop) {S : MS} {r : Int32} {out : ((Nat × Int32 × Int32 × Int32) ⊕ Int32)} {ls : Array Slot} {x0 : Nat} {x1 : Int32} (C0 : CX p s m args meth c RX0 cX0_countBelow 4 D cy) (M : MW D cy ad A S s.heap) (hr : meth.sig.returnType = some .int) (hF : bX0_countBelow_0 S x0 x1 = some out) (hl : lv_has ls 4 [(0, .ref (ad x0)), (1, .int x1)]) (Kr : ∀ r9, out = .inr r9 → r9 = r) (Kh0 : ∀ (y0 : Nat) (y1 : Int32) (y2 : Int32) (y3 : Int32), out = .inl (y0, y1, y2, y3) → ∀ (ls1 : Array Slot), lv_has ls1 4 [(0, .ref (ad y0)), (1, .int y1), (2, .int y2), (3, .int y3)] → W p l e rmX0_countBelow s m args below meth c s.heap [] 0 0 (MQ below (QcS (some (.int r))) args s 0 0 (fun _ => False)) (F0 m 4 ls1 [])) : W p l e rmX0_countBelow s m args below meth c s.heap [] 0 0 (MQ below (QcS (some (.int r))) args s 0 0 (fun _ => False)) (F0 m 0 ls []) := by
  unfold bX0_countBelow_0 at hF
  obtain ⟨hx, hb, -, hown, -, hts, -⟩ := id C0
  refine lv_iconst (v := (0 : Int32)) hx hb dX0_countBelow_0 (by decide) ?_
  refine lv_istore_n (lv' := [(2, .int (0 : Int32)), (0, .ref (ad x0)), (1, .int x1)]) hx hb dX0_countBelow_1 rfl hl (by decide) rfl (fun ls hl => ?_)
  refine lv_iconst (v := (0 : Int32)) hx hb dX0_countBelow_2 (by decide) ?_
  refine lv_istore_n (lv' := [(3, .int (0 : Int32)), (2, .int (0 : Int32)), (0, .ref (ad x0)), (1, .int x1)]) hx hb dX0_countBelow_3 rfl hl (by decide) rfl (fun ls hl => ?_)
  exact Kh0 _ _ _ _ (Option.some.inj hF).symm _ (lv_sub hl [2, 3, 1, 0] rfl)
set_option maxHeartbeats 4000000 in
set_option maxRecDepth 100000 in
theorem wX0_countBelow_24 {p : Program} {l : Launch} {e : Env} {s : State} {m : MethodId} {args : Array Value} {below : List Frame} {meth : Method} {c : Code} {D : va_G} {cy : Nat → ClassId} (ad : Nat → Nat) (A : Nat → Prop) {S : MS} {r : Int32} {out : ((Nat × Int32 × Int32 × Int32) ⊕ Int32)} {ls : Array Slot} {x0 : Nat} {x1 : Int32} {x2 : Int32} {x3 : Int32} (C0 : CX p s m args meth c RX0 cX0_countBelow 4 D cy) (M : MW D cy ad A S s.heap) (hr : meth.sig.returnType = some .int) (hF : bX0_countBelow_24 S x0 x1 x2 x3 = some out) (hl : lv_has ls 4 [(0, .ref (ad x0)), (1, .int x1), (2, .int x2), (3, .int x3)]) (Kr : ∀ r9, out = .inr r9 → r9 = r) (Kh0 : ∀ (y0 : Nat) (y1 : Int32) (y2 : Int32) (y3 : Int32), out = .inl (y0, y1, y2, y3) → ∀ (ls1 : Array Slot), lv_has ls1 4 [(0, .ref (ad y0)), (1, .int y1), (2, .int y2), (3, .int y3)] → W p l e rmX0_countBelow s m args below meth c s.heap [] 0 0 (MQ below (QcS (some (.int r))) args s 0 0 (fun _ => False)) (F0 m 4 ls1 [])) : W p l e rmX0_countBelow s m args below meth c s.heap [] 0 0 (MQ below (QcS (some (.int r))) args s 0 0 (fun _ => False)) (F0 m 24 ls []) := by
  unfold bX0_countBelow_24 at hF
  obtain ⟨hx, hb, -, hown, -, hts, -⟩ := id C0
  obtain ⟨v24, hv, hF⟩ := ob hF
  refine lv_iinc (v := v24) (lv' := [(3, .int v24), (0, .ref (ad x0)), (1, .int x1), (2, .int x2)]) hx hb dX0_countBelow_24 hl (k := 3) rfl (by rw [← vtI hv]; rfl) (by decide) rfl (fun ls hl => ?_)
  refine lv_goto (tgt := 4) hx hb dX0_countBelow_27 (by decide) ?_
  exact Kh0 _ _ _ _ (Option.some.inj hF).symm _ (lv_sub hl [1, 2, 3, 0] rfl)
set_option maxHeartbeats 4000000 in
set_option maxRecDepth 100000 in
theorem wX0_countBelow_4 {p : Program} {l : Launch} {e : Env} {s : State} {m : MethodId} {args : Array Value} {below : List Frame} {meth : Method} {c : Code} {D : va_G} {cy : Nat → ClassId} (ad : Nat → Nat) (A : Nat → Prop) {S : MS} {r : Int32} {out : ((Nat × Int32 × Int32 × Int32) ⊕ Int32)} {ls : Array Slot} {x0 : Nat} {x1 : Int32} {x2 : Int32} {x3 : Int32} (C0 : CX p s m args meth c RX0 cX0_countBelow 4 D cy) (M : MW D cy ad A S s.heap) (hr : meth.sig.returnType = some .int) (hF : bX0_countBelow_4 S x0 x1 x2 x3 = some out) (hl : lv_has ls 4 [(0, .ref (ad x0)), (1, .int x1), (2, .int x2), (3, .int x3)]) (Kr : ∀ r9, out = .inr r9 → r9 = r) (Kh0 : ∀ (y0 : Nat) (y1 : Int32) (y2 : Int32) (y3 : Int32), out = .inl (y0, y1, y2, y3) → ∀ (ls1 : Array Slot), lv_has ls1 4 [(0, .ref (ad y0)), (1, .int y1), (2, .int y2), (3, .int y3)] → W p l e rmX0_countBelow s m args below meth c s.heap [] 0 0 (MQ below (QcS (some (.int r))) args s 0 0 (fun _ => False)) (F0 m 4 ls1 [])) : W p l e rmX0_countBelow s m args below meth c s.heap [] 0 0 (MQ below (QcS (some (.int r))) args s 0 0 (fun _ => False)) (F0 m 4 ls []) := by
  unfold bX0_countBelow_4 at hF
  obtain ⟨hx, hb, -, hown, -, hts, -⟩ := id C0
  refine lv_iload_n hx hb dX0_countBelow_4 rfl (lv_at hl 3 rfl) ?_
  refine lv_sipush (v := (144 : Int32)) hx hb dX0_countBelow_5 (by decide) ?_
  refine lv_icmp_ge (tgt := 30) hx hb dX0_countBelow_8 (by decide) (fun hc => ?_) (fun hc => ?_)
  · have hF := oi_t hc hF
    refine lv_iload_n hx hb dX0_countBelow_30 rfl (lv_at hl 2 rfl) ?_
    obtain rfl := (Kr _ (Option.some.inj hF).symm)
    exact rt_SI C0 hr dX0_countBelow_31
  · have hF := oi_f hc hF
    refine lv_aload_n hx hb dX0_countBelow_11 rfl (lv_at hl 0 rfl) ?_
    obtain ⟨v12, hv, hF⟩ := ob hF
    refine k_getP C0 M hv fl_X0_25 dX0_countBelow_12 ?_
    refine lv_iload_n hx hb dX0_countBelow_15 rfl (lv_at hl 3 rfl) ?_
    obtain ⟨v16, hv, hF⟩ := ob hF
    refine k_ld C0 M hv dX0_countBelow_16 ?_
    refine lv_iload_n hx hb dX0_countBelow_17 rfl (lv_at hl 1 rfl) ?_
    refine lv_icmp_ge (tgt := 24) hx hb dX0_countBelow_18 (by decide) (fun hc => ?_) (fun hc => ?_)
    · have hF := oi_t hc hF
      exact wX0_countBelow_24 ad A C0 M hr hF (lv_sub hl [0, 1, 2, 3] rfl) Kr Kh0
    · have hF := oi_f hc hF
      obtain ⟨v21, hv, hF⟩ := ob hF
      refine lv_iinc (v := v21) (lv' := [(2, .int v21), (0, .ref (ad x0)), (1, .int x1), (3, .int x3)]) hx hb dX0_countBelow_21 hl (k := 2) rfl (by rw [← vtI hv]; rfl) (by decide) rfl (fun ls hl => ?_)
      exact wX0_countBelow_24 ad A C0 M hr hF (lv_sub hl [1, 2, 0, 3] rfl) Kr Kh0
set_option maxHeartbeats 4000000 in
set_option maxRecDepth 100000 in
theorem tX0_countBelow (l : Launch) (D : va_G) (cy : Nat → ClassId) (ad : Nat → Nat) (A : Nat → Prop) {S : MS} {a0 : Nat} {a1 : Int32} {r : Int32} (h : fX0_countBelow S a0 a1 = some r) : Met l yX0_countBelow [Cond.code yX0_countBelow cX0_countBelow 4 (some .int)] rmX0_countBelow (PcR D cy ad A S [.ref (ad a0), .int a1]) (QcS (some (.int r))) 0 0 (fun _ => False) := by
  refine met_R (by decide +kernel) cw_X0_countBelow (Nat.le_of_ble_eq_true rfl) ?_
  intro p e s m args below meth c ls C0 M hr hl
  have hl : lv_has ls 4 [(0, .ref (ad a0)), (1, .int a1)] := hl
  have key := lim_walk (step := sX0_countBelow S) (fun (q : (Nat × Int32 × Int32 × Int32)) (r9 : Int32) => ∀ (r : Int32), r9 = r → ((∀ (y0 : Nat) (y1 : Int32) (y2 : Int32) (y3 : Int32), q = (y0, y1, y2, y3) → ∀ (ls1 : Array Slot), lv_has ls1 4 [(0, .ref (ad y0)), (1, .int y1), (2, .int y2), (3, .int y3)] → W p l e rmX0_countBelow s m args below meth c s.heap [] 0 0 (MQ below (QcS (some (.int r))) args s 0 0 (fun _ => False)) (F0 m 4 ls1 [])))) ?_
  · unfold fX0_countBelow at h
    cases hs0 : bX0_countBelow_0 S a0 a1 with
    | none => rw [hs0] at h; cases h
    | some out =>
      rw [hs0] at h
      refine wX0_countBelow_0 ad A C0 M hr hs0 hl (fun r9 hr9 => ?_) ?_
      · subst hr9; exact Option.some.inj h
      · intro y0 y1 y2 y3 hq; subst hq; exact (key _ _ h _ rfl) _ _ _ _ rfl
  · intro q r9 out hst hre hin9
    intro r er; subst er
    refine ?_
    · intro y0 y1 y2 y3 hq ls1 hl
      subst hq
      exact wX0_countBelow_4 ad A C0 M hr hst hl hre (fun k0 k1 k2 k3 hk => (hin9 _ hk _ rfl) _ _ _ _ rfl)
set_option maxHeartbeats 4000000 in
set_option maxRecDepth 100000 in
theorem wX0_reach_16 {p : Program} {l : Launch} {e : Env} {s : State} {m : MethodId} {args : Array Value} {below : List Frame} {meth : Method} {c : Code} {D : va_G} {cy : Nat → ClassId} (ad : Nat → Nat) (A : Nat → Prop) {S : MS} {S' : MS} {H : Heap} {locs : List Loc} {n0 : Nat} {r : Int32} {ls : Array Slot} {x2 : Int32} (C0 : CX p s m args meth c RX0 cX0_reach 3 D cy) (M : ST D cy ad A s.heap (ZN n0 s.heap.size) S H locs) (hr : meth.sig.returnType = some .int) (hF : bX0_reach_16 S x2 = some (r, S')) (hl : lv_has ls 3 [(2, .int x2)]) : W p l e rmX0_reach s m args below meth c H locs 0 0 (MQ below (QcM D cy ad A n0 S' (some (.int r))) args s 0 0 A) (F0 m 16 ls []) := by
  unfold bX0_reach_16 at hF
  obtain ⟨hx, hb, -, hown, -, hts, -⟩ := id C0
  refine lv_iload_n hx hb dX0_reach_16 rfl (lv_at hl 0 rfl) ?_
  obtain ⟨rfl, rfl⟩ := Prod.mk.inj (Option.some.inj hF)
  exact rt_MI C0 M hr dX0_reach_17
set_option maxHeartbeats 4000000 in
set_option maxRecDepth 100000 in
theorem wX0_reach_0 {p : Program} {l : Launch} {e : Env} {s : State} {m : MethodId} {args : Array Value} {below : List Frame} {meth : Method} {c : Code} {D : va_G} {cy : Nat → ClassId} (ad : Nat → Nat) (A : Nat → Prop) {S : MS} {S' : MS} {H : Heap} {locs : List Loc} {n0 : Nat} {r : Int32} {ls : Array Slot} {x0 : Nat} {x1 : Int32} {x2 : Int32} (C0 : CX p s m args meth c RX0 cX0_reach 3 D cy) (M : ST D cy ad A s.heap (ZN n0 s.heap.size) S H locs) (hr : meth.sig.returnType = some .int) (hF : bX0_reach_0 S x0 x1 x2 = some (r, S')) (hl : lv_has ls 3 [(0, .ref (ad x0)), (1, .int x1), (2, .int x2)]) : W p l e rmX0_reach s m args below meth c H locs 0 0 (MQ below (QcM D cy ad A n0 S' (some (.int r))) args s 0 0 A) (F0 m 0 ls []) := by
  unfold bX0_reach_0 at hF
  obtain ⟨hx, hb, -, hown, -, hts, -⟩ := id C0
  refine lv_aload_n hx hb dX0_reach_0 rfl (lv_at hl 0 rfl) ?_
  obtain ⟨v1, hv, hF⟩ := ob hF
  refine k_getP C0 M.1 hv fl_X0_37 dX0_reach_1 ?_
  refine lv_iload_n hx hb dX0_reach_4 rfl (lv_at hl 1 rfl) ?_
  obtain ⟨v5, hv, hF⟩ := ob hF
  refine k_ldZ C0 M.1 hv dX0_reach_5 ?_
  refine lv_if_ne (tgt := 16) hx hb dX0_reach_6 (by decide) (fun hc => ?_) (fun hc => ?_)
  · have hF := oi_f hc hF
    exact wX0_reach_16 ad A C0 M hr hF (lv_sub hl [2] rfl)
  · have hF := oi_t hc hF
    refine lv_iload_n hx hb dX0_reach_9 rfl (lv_at hl 2 rfl) ?_
    refine lv_sipush (v := (144 : Int32)) hx hb dX0_reach_10 (by decide) ?_
    refine lv_icmp_lt (tgt := 18) hx hb dX0_reach_13 (by decide) (fun hc => ?_) (fun hc => ?_)
    · have hF := oi_t hc hF
      refine lv_aload_n hx hb dX0_reach_18 rfl (lv_at hl 0 rfl) ?_
      obtain ⟨v19, hv, hF⟩ := ob hF
      refine k_getP C0 M.1 hv fl_X0_37 dX0_reach_19 ?_
      refine lv_iload_n hx hb dX0_reach_22 rfl (lv_at hl 1 rfl) ?_
      refine lv_iconst (v := (1 : Int32)) hx hb dX0_reach_23 (by decide) ?_
      have hz : o_zb (1 : Int32) = some (1 : Int32) := rfl
      obtain ⟨S24, hv, hF⟩ := ob hF
      refine k_stZ C0 M hz hv dX0_reach_24 (fun H locs M => ?_)
      refine lv_aload_n hx hb dX0_reach_25 rfl (lv_at hl 0 rfl) ?_
      obtain ⟨v26, hv, hF⟩ := ob hF
      refine k_getP C0 M.1 hv fl_X0_41 dX0_reach_26 ?_
      refine lv_iload_n hx hb dX0_reach_29 rfl (lv_at hl 2 rfl) ?_
      refine lv_iload_n hx hb dX0_reach_30 rfl (lv_at hl 1 rfl) ?_
      obtain ⟨S31, hv, hF⟩ := ob hF
      refine k_st C0 M hv dX0_reach_31 (fun H locs M => ?_)
      refine lv_iload_n hx hb dX0_reach_32 rfl (lv_at hl 2 rfl) ?_
      refine lv_iconst (v := (1 : Int32)) hx hb dX0_reach_33 (by decide) ?_
      refine lv_iadd hx hb dX0_reach_34 ?_
      obtain ⟨rfl, rfl⟩ := Prod.mk.inj (Option.some.inj hF)
      exact rt_MI C0 M hr dX0_reach_35
    · have hF := oi_f hc hF
      exact wX0_reach_16 ad A C0 M hr hF (lv_sub hl [2] rfl)
set_option maxHeartbeats 4000000 in
set_option maxRecDepth 100000 in
theorem tX0_reach (l : Launch) (D : va_G) (cy : Nat → ClassId) (ad : Nat → Nat) (A : Nat → Prop) {S S' : MS} {a0 : Nat} {a1 : Int32} {a2 : Int32} {r : Int32} (h : fX0_reach S a0 a1 a2 = some (r, S')) : Met l yX0_reach [Cond.code yX0_reach cX0_reach 3 (some .int)] rmX0_reach (PcR D cy ad A S [.ref (ad a0), .int a1, .int a2]) (QcM D cy ad A (m_n S) S' (some (.int r))) 0 0 A := by
  refine met_M (by decide +kernel) cw_X0_reach (Nat.le_of_ble_eq_true rfl) ?_
  intro p e s m args below meth c ls C0 M hr hin hl
  have hl : lv_has ls 3 [(0, .ref (ad a0)), (1, .int a1), (2, .int a2)] := hl
  exact wX0_reach_0 ad A C0 M hr h hl
set_option maxHeartbeats 4000000 in
set_option maxRecDepth 100000 in
theorem wX0_reachPiece_0 {p : Program} {l : Launch} {e : Env} {s : State} {m : MethodId} {args : Array Value} {below : List Frame} {meth : Method} {c : Code} {D : va_G} {cy : Nat → ClassId} (ad : Nat → Nat) (A : Nat → Prop) {S : MS} {S' : MS} {H : Heap} {locs : List Loc} {n0 : Nat} {out : ((Nat × Int32 × Int32 × MS) ⊕ MS)} {ls : Array Slot} {x0 : Nat} {x1 : Int32} (C0 : CX p s m args meth c RX0 cX0_reachPiece 7 D cy) (M : ST D cy ad A s.heap (ZN n0 s.heap.size) S H locs) (hr : meth.sig.returnType = none) (hF : bX0_reachPiece_0 S x0 x1 = some out) (hl : lv_has ls 7 [(0, .ref (ad x0)), (1, .int x1)]) (Kr : ∀ r9, out = .inr r9 → r9 = S') (Kh0 : ∀ (y0 : Nat) (y1 : Int32) (y2 : Int32) (S2 : MS), out = .inl (y0, y1, y2, S2) → ∀ (H1 : Heap) (locs1 : List Loc) (ls1 : Array Slot), ST D cy ad A s.heap (ZN n0 s.heap.size) S2 H1 locs1 → lv_has ls1 7 [(0, .ref (ad y0)), (2, .int y1), (3, .int y2)] → W p l e rmX0_reachPiece s m args below meth c H1 locs1 0 0 (MQ below (QcM D cy ad A n0 S' (none)) args s 0 0 A) (F0 m 9 ls1 [])) : W p l e rmX0_reachPiece s m args below meth c H locs 0 0 (MQ below (QcM D cy ad A n0 S' (none)) args s 0 0 A) (F0 m 0 ls []) := by
  unfold bX0_reachPiece_0 at hF
  obtain ⟨hx, hb, -, hown, -, hts, -⟩ := id C0
  refine lv_aload_n hx hb dX0_reachPiece_0 rfl (lv_at hl 0 rfl) ?_
  refine lv_iload_n hx hb dX0_reachPiece_1 rfl (lv_at hl 1 rfl) ?_
  refine lv_iconst (v := (0 : Int32)) hx hb dX0_reachPiece_2 (by decide) ?_
  obtain ⟨_, hrec, hF⟩ := ob hF
  obtain ⟨v3, S3, hcl, hF⟩ := ob2 hF
  refine go_MI (r_V (rest := []) (As := [.int x1, .int (0 : Int32)]) C0 cb_X0_114 M.1 hrec (tX0_reach l D cy ad A hcl) (pre_R C0 M.1) hl dX0_reachPiece_3 rfl (Nat.le_of_ble_eq_true rfl) ⟨rfl, rfl⟩ ⟨Nat.le_of_ble_eq_true rfl, Nat.le_of_ble_eq_true rfl⟩ ⟨Nat.le_of_ble_eq_true rfl, Nat.le_of_ble_eq_true rfl⟩ rfl) M (fun H locs M => ?_)
  refine lv_istore_n (lv' := [(2, .int v3), (0, .ref (ad x0)), (1, .int x1)]) hx hb dX0_reachPiece_6 rfl hl (by decide) rfl (fun ls hl => ?_)
  refine lv_iconst (v := (0 : Int32)) hx hb dX0_reachPiece_7 (by decide) ?_
  refine lv_istore_n (lv' := [(3, .int (0 : Int32)), (2, .int v3), (0, .ref (ad x0)), (1, .int x1)]) hx hb dX0_reachPiece_8 rfl hl (by decide) rfl (fun ls hl => ?_)
  exact Kh0 _ _ _ _ (Option.some.inj hF).symm _ _ _ M (lv_sub hl [2, 1, 0] rfl)
set_option maxHeartbeats 4000000 in
set_option maxRecDepth 100000 in
theorem wX0_reachPiece_109 {p : Program} {l : Launch} {e : Env} {s : State} {m : MethodId} {args : Array Value} {below : List Frame} {meth : Method} {c : Code} {D : va_G} {cy : Nat → ClassId} (ad : Nat → Nat) (A : Nat → Prop) {S : MS} {S' : MS} {H : Heap} {locs : List Loc} {n0 : Nat} {out : ((Nat × Int32 × Int32 × MS) ⊕ MS)} {ls : Array Slot} {x0 : Nat} {x2 : Int32} {x3 : Int32} (C0 : CX p s m args meth c RX0 cX0_reachPiece 7 D cy) (M : ST D cy ad A s.heap (ZN n0 s.heap.size) S H locs) (hr : meth.sig.returnType = none) (hF : bX0_reachPiece_109 S x0 x2 x3 = some out) (hl : lv_has ls 7 [(0, .ref (ad x0)), (2, .int x2), (3, .int x3)]) (Kr : ∀ r9, out = .inr r9 → r9 = S') (Kh0 : ∀ (y0 : Nat) (y1 : Int32) (y2 : Int32) (S2 : MS), out = .inl (y0, y1, y2, S2) → ∀ (H1 : Heap) (locs1 : List Loc) (ls1 : Array Slot), ST D cy ad A s.heap (ZN n0 s.heap.size) S2 H1 locs1 → lv_has ls1 7 [(0, .ref (ad y0)), (2, .int y1), (3, .int y2)] → W p l e rmX0_reachPiece s m args below meth c H1 locs1 0 0 (MQ below (QcM D cy ad A n0 S' (none)) args s 0 0 A) (F0 m 9 ls1 [])) : W p l e rmX0_reachPiece s m args below meth c H locs 0 0 (MQ below (QcM D cy ad A n0 S' (none)) args s 0 0 A) (F0 m 109 ls []) := by
  unfold bX0_reachPiece_109 at hF
  obtain ⟨hx, hb, -, hown, -, hts, -⟩ := id C0
  obtain ⟨v109, hv, hF⟩ := ob hF
  refine lv_iinc (v := v109) (lv' := [(3, .int v109), (0, .ref (ad x0)), (2, .int x2)]) hx hb dX0_reachPiece_109 hl (k := 2) rfl (by rw [← vtI hv]; rfl) (by decide) rfl (fun ls hl => ?_)
  refine lv_goto (tgt := 9) hx hb dX0_reachPiece_112 (by decide) ?_
  exact Kh0 _ _ _ _ (Option.some.inj hF).symm _ _ _ M (lv_sub hl [1, 2, 0] rfl)
set_option maxHeartbeats 4000000 in
set_option maxRecDepth 100000 in
theorem wX0_reachPiece_91 {p : Program} {l : Launch} {e : Env} {s : State} {m : MethodId} {args : Array Value} {below : List Frame} {meth : Method} {c : Code} {D : va_G} {cy : Nat → ClassId} (ad : Nat → Nat) (A : Nat → Prop) {S : MS} {S' : MS} {H : Heap} {locs : List Loc} {n0 : Nat} {out : ((Nat × Int32 × Int32 × MS) ⊕ MS)} {ls : Array Slot} {x0 : Nat} {x2 : Int32} {x3 : Int32} {x4 : Int32} {x6 : Int32} (C0 : CX p s m args meth c RX0 cX0_reachPiece 7 D cy) (M : ST D cy ad A s.heap (ZN n0 s.heap.size) S H locs) (hr : meth.sig.returnType = none) (hF : bX0_reachPiece_91 S x0 x2 x3 x4 x6 = some out) (hl : lv_has ls 7 [(0, .ref (ad x0)), (2, .int x2), (3, .int x3), (4, .int x4), (6, .int x6)]) (Kr : ∀ r9, out = .inr r9 → r9 = S') (Kh0 : ∀ (y0 : Nat) (y1 : Int32) (y2 : Int32) (S2 : MS), out = .inl (y0, y1, y2, S2) → ∀ (H1 : Heap) (locs1 : List Loc) (ls1 : Array Slot), ST D cy ad A s.heap (ZN n0 s.heap.size) S2 H1 locs1 → lv_has ls1 7 [(0, .ref (ad y0)), (2, .int y1), (3, .int y2)] → W p l e rmX0_reachPiece s m args below meth c H1 locs1 0 0 (MQ below (QcM D cy ad A n0 S' (none)) args s 0 0 A) (F0 m 9 ls1 [])) : W p l e rmX0_reachPiece s m args below meth c H locs 0 0 (MQ below (QcM D cy ad A n0 S' (none)) args s 0 0 A) (F0 m 91 ls []) := by
  unfold bX0_reachPiece_91 at hF
  obtain ⟨hx, hb, -, hown, -, hts, -⟩ := id C0
  refine lv_iload hx hb dX0_reachPiece_91 (lv_at hl 4 rfl) ?_
  refine lv_bipush (v := (11 : Int32)) hx hb dX0_reachPiece_93 (by decide) ?_
  refine lv_icmp_ge (tgt := 109) hx hb dX0_reachPiece_95 (by decide) (fun hc => ?_) (fun hc => ?_)
  · have hF := oi_t hc hF
    exact wX0_reachPiece_109 ad A C0 M hr hF (lv_sub hl [0, 1, 2] rfl) Kr Kh0
  · have hF := oi_f hc hF
    refine lv_aload_n hx hb dX0_reachPiece_98 rfl (lv_at hl 0 rfl) ?_
    refine lv_iload hx hb dX0_reachPiece_99 (lv_at hl 3 rfl) ?_
    refine lv_bipush (v := (12 : Int32)) hx hb dX0_reachPiece_101 (by decide) ?_
    refine lv_iadd hx hb dX0_reachPiece_103 ?_
    refine lv_iload_n hx hb dX0_reachPiece_104 rfl (lv_at hl 1 rfl) ?_
    obtain ⟨_, hrec, hF⟩ := ob hF
    obtain ⟨v105, S105, hcl, hF⟩ := ob2 hF
    refine go_MI (r_V (rest := []) (As := [.int (x4 + (12 : Int32)), .int x2]) C0 cb_X0_114 M.1 hrec (tX0_reach l D cy ad A hcl) (pre_R C0 M.1) hl dX0_reachPiece_105 rfl (Nat.le_of_ble_eq_true rfl) ⟨rfl, rfl⟩ ⟨Nat.le_of_ble_eq_true rfl, Nat.le_of_ble_eq_true rfl⟩ ⟨Nat.le_of_ble_eq_true rfl, Nat.le_of_ble_eq_true rfl⟩ rfl) M (fun H locs M => ?_)
    refine lv_istore_n (lv' := [(2, .int v105), (0, .ref (ad x0)), (3, .int x3), (4, .int x4), (6, .int x6)]) hx hb dX0_reachPiece_108 rfl hl (by decide) rfl (fun ls hl => ?_)
    exact wX0_reachPiece_109 ad A C0 M hr hF (lv_sub hl [1, 0, 2] rfl) Kr Kh0
set_option maxHeartbeats 4000000 in
set_option maxRecDepth 100000 in
theorem wX0_reachPiece_75 {p : Program} {l : Launch} {e : Env} {s : State} {m : MethodId} {args : Array Value} {below : List Frame} {meth : Method} {c : Code} {D : va_G} {cy : Nat → ClassId} (ad : Nat → Nat) (A : Nat → Prop) {S : MS} {S' : MS} {H : Heap} {locs : List Loc} {n0 : Nat} {out : ((Nat × Int32 × Int32 × MS) ⊕ MS)} {ls : Array Slot} {x0 : Nat} {x2 : Int32} {x3 : Int32} {x4 : Int32} {x6 : Int32} (C0 : CX p s m args meth c RX0 cX0_reachPiece 7 D cy) (M : ST D cy ad A s.heap (ZN n0 s.heap.size) S H locs) (hr : meth.sig.returnType = none) (hF : bX0_reachPiece_75 S x0 x2 x3 x4 x6 = some out) (hl : lv_has ls 7 [(0, .ref (ad x0)), (2, .int x2), (3, .int x3), (4, .int x4), (6, .int x6)]) (Kr : ∀ r9, out = .inr r9 → r9 = S') (Kh0 : ∀ (y0 : Nat) (y1 : Int32) (y2 : Int32) (S2 : MS), out = .inl (y0, y1, y2, S2) → ∀ (H1 : Heap) (locs1 : List Loc) (ls1 : Array Slot), ST D cy ad A s.heap (ZN n0 s.heap.size) S2 H1 locs1 → lv_has ls1 7 [(0, .ref (ad y0)), (2, .int y1), (3, .int y2)] → W p l e rmX0_reachPiece s m args below meth c H1 locs1 0 0 (MQ below (QcM D cy ad A n0 S' (none)) args s 0 0 A) (F0 m 9 ls1 [])) : W p l e rmX0_reachPiece s m args below meth c H locs 0 0 (MQ below (QcM D cy ad A n0 S' (none)) args s 0 0 A) (F0 m 75 ls []) := by
  unfold bX0_reachPiece_75 at hF
  obtain ⟨hx, hb, -, hown, -, hts, -⟩ := id C0
  refine lv_iload hx hb dX0_reachPiece_75 (lv_at hl 4 rfl) ?_
  refine lv_if_le (tgt := 91) hx hb dX0_reachPiece_77 (by decide) (fun hc => ?_) (fun hc => ?_)
  · have hF := oi_t hc hF
    exact wX0_reachPiece_91 ad A C0 M hr hF (lv_sub hl [0, 1, 2, 3, 4] rfl) Kr Kh0
  · have hF := oi_f hc hF
    refine lv_aload_n hx hb dX0_reachPiece_80 rfl (lv_at hl 0 rfl) ?_
    refine lv_iload hx hb dX0_reachPiece_81 (lv_at hl 3 rfl) ?_
    refine lv_bipush (v := (12 : Int32)) hx hb dX0_reachPiece_83 (by decide) ?_
    refine lv_isub hx hb dX0_reachPiece_85 ?_
    refine lv_iload_n hx hb dX0_reachPiece_86 rfl (lv_at hl 1 rfl) ?_
    obtain ⟨_, hrec, hF⟩ := ob hF
    obtain ⟨v87, S87, hcl, hF⟩ := ob2 hF
    refine go_MI (r_V (rest := []) (As := [.int (x4 - (12 : Int32)), .int x2]) C0 cb_X0_114 M.1 hrec (tX0_reach l D cy ad A hcl) (pre_R C0 M.1) hl dX0_reachPiece_87 rfl (Nat.le_of_ble_eq_true rfl) ⟨rfl, rfl⟩ ⟨Nat.le_of_ble_eq_true rfl, Nat.le_of_ble_eq_true rfl⟩ ⟨Nat.le_of_ble_eq_true rfl, Nat.le_of_ble_eq_true rfl⟩ rfl) M (fun H locs M => ?_)
    refine lv_istore_n (lv' := [(2, .int v87), (0, .ref (ad x0)), (3, .int x3), (4, .int x4), (6, .int x6)]) hx hb dX0_reachPiece_90 rfl hl (by decide) rfl (fun ls hl => ?_)
    exact wX0_reachPiece_91 ad A C0 M hr hF (lv_sub hl [1, 0, 2, 3, 4] rfl) Kr Kh0
set_option maxHeartbeats 4000000 in
set_option maxRecDepth 100000 in
theorem wX0_reachPiece_58 {p : Program} {l : Launch} {e : Env} {s : State} {m : MethodId} {args : Array Value} {below : List Frame} {meth : Method} {c : Code} {D : va_G} {cy : Nat → ClassId} (ad : Nat → Nat) (A : Nat → Prop) {S : MS} {S' : MS} {H : Heap} {locs : List Loc} {n0 : Nat} {out : ((Nat × Int32 × Int32 × MS) ⊕ MS)} {ls : Array Slot} {x0 : Nat} {x2 : Int32} {x3 : Int32} {x4 : Int32} {x5 : Int32} {x6 : Int32} (C0 : CX p s m args meth c RX0 cX0_reachPiece 7 D cy) (M : ST D cy ad A s.heap (ZN n0 s.heap.size) S H locs) (hr : meth.sig.returnType = none) (hF : bX0_reachPiece_58 S x0 x2 x3 x4 x5 x6 = some out) (hl : lv_has ls 7 [(0, .ref (ad x0)), (2, .int x2), (3, .int x3), (4, .int x4), (5, .int x5), (6, .int x6)]) (Kr : ∀ r9, out = .inr r9 → r9 = S') (Kh0 : ∀ (y0 : Nat) (y1 : Int32) (y2 : Int32) (S2 : MS), out = .inl (y0, y1, y2, S2) → ∀ (H1 : Heap) (locs1 : List Loc) (ls1 : Array Slot), ST D cy ad A s.heap (ZN n0 s.heap.size) S2 H1 locs1 → lv_has ls1 7 [(0, .ref (ad y0)), (2, .int y1), (3, .int y2)] → W p l e rmX0_reachPiece s m args below meth c H1 locs1 0 0 (MQ below (QcM D cy ad A n0 S' (none)) args s 0 0 A) (F0 m 9 ls1 [])) : W p l e rmX0_reachPiece s m args below meth c H locs 0 0 (MQ below (QcM D cy ad A n0 S' (none)) args s 0 0 A) (F0 m 58 ls []) := by
  unfold bX0_reachPiece_58 at hF
  obtain ⟨hx, hb, -, hown, -, hts, -⟩ := id C0
  refine lv_iload hx hb dX0_reachPiece_58 (lv_at hl 4 rfl) ?_
  refine lv_bipush (v := (11 : Int32)) hx hb dX0_reachPiece_60 (by decide) ?_
  refine lv_icmp_ge (tgt := 75) hx hb dX0_reachPiece_62 (by decide) (fun hc => ?_) (fun hc => ?_)
  · have hF := oi_t hc hF
    exact wX0_reachPiece_75 ad A C0 M hr hF (lv_sub hl [0, 1, 2, 3, 5] rfl) Kr Kh0
  · have hF := oi_f hc hF
    refine lv_aload_n hx hb dX0_reachPiece_65 rfl (lv_at hl 0 rfl) ?_
    refine lv_iload hx hb dX0_reachPiece_66 (lv_at hl 3 rfl) ?_
    refine lv_iconst (v := (1 : Int32)) hx hb dX0_reachPiece_68 (by decide) ?_
    refine lv_iadd hx hb dX0_reachPiece_69 ?_
    refine lv_iload_n hx hb dX0_reachPiece_70 rfl (lv_at hl 1 rfl) ?_
    obtain ⟨_, hrec, hF⟩ := ob hF
    obtain ⟨v71, S71, hcl, hF⟩ := ob2 hF
    refine go_MI (r_V (rest := []) (As := [.int (x4 + (1 : Int32)), .int x2]) C0 cb_X0_114 M.1 hrec (tX0_reach l D cy ad A hcl) (pre_R C0 M.1) hl dX0_reachPiece_71 rfl (Nat.le_of_ble_eq_true rfl) ⟨rfl, rfl⟩ ⟨Nat.le_of_ble_eq_true rfl, Nat.le_of_ble_eq_true rfl⟩ ⟨Nat.le_of_ble_eq_true rfl, Nat.le_of_ble_eq_true rfl⟩ rfl) M (fun H locs M => ?_)
    refine lv_istore_n (lv' := [(2, .int v71), (0, .ref (ad x0)), (3, .int x3), (4, .int x4), (5, .int x5), (6, .int x6)]) hx hb dX0_reachPiece_74 rfl hl (by decide) rfl (fun ls hl => ?_)
    exact wX0_reachPiece_75 ad A C0 M hr hF (lv_sub hl [1, 0, 2, 3, 5] rfl) Kr Kh0
set_option maxHeartbeats 4000000 in
set_option maxRecDepth 100000 in
theorem wX0_reachPiece_115 {p : Program} {l : Launch} {e : Env} {s : State} {m : MethodId} {args : Array Value} {below : List Frame} {meth : Method} {c : Code} {D : va_G} {cy : Nat → ClassId} (ad : Nat → Nat) (A : Nat → Prop) {S : MS} {S' : MS} {H : Heap} {locs : List Loc} {n0 : Nat} {out : ((Nat × Int32 × Int32 × MS) ⊕ MS)} {ls : Array Slot} (C0 : CX p s m args meth c RX0 cX0_reachPiece 7 D cy) (M : ST D cy ad A s.heap (ZN n0 s.heap.size) S H locs) (hr : meth.sig.returnType = none) (hF : bX0_reachPiece_115 S = some out) (hl : lv_has ls 7 []) (Kr : ∀ r9, out = .inr r9 → r9 = S') (Kh0 : ∀ (y0 : Nat) (y1 : Int32) (y2 : Int32) (S2 : MS), out = .inl (y0, y1, y2, S2) → ∀ (H1 : Heap) (locs1 : List Loc) (ls1 : Array Slot), ST D cy ad A s.heap (ZN n0 s.heap.size) S2 H1 locs1 → lv_has ls1 7 [(0, .ref (ad y0)), (2, .int y1), (3, .int y2)] → W p l e rmX0_reachPiece s m args below meth c H1 locs1 0 0 (MQ below (QcM D cy ad A n0 S' (none)) args s 0 0 A) (F0 m 9 ls1 [])) : W p l e rmX0_reachPiece s m args below meth c H locs 0 0 (MQ below (QcM D cy ad A n0 S' (none)) args s 0 0 A) (F0 m 115 ls []) := by
  unfold bX0_reachPiece_115 at hF
  obtain ⟨hx, hb, -, hown, -, hts, -⟩ := id C0
  obtain rfl := (Kr _ (Option.some.inj hF).symm)
  exact rt_MV C0 M hr dX0_reachPiece_115
set_option maxHeartbeats 4000000 in
set_option maxRecDepth 100000 in
theorem wX0_reachPiece_9 {p : Program} {l : Launch} {e : Env} {s : State} {m : MethodId} {args : Array Value} {below : List Frame} {meth : Method} {c : Code} {D : va_G} {cy : Nat → ClassId} (ad : Nat → Nat) (A : Nat → Prop) {S : MS} {S' : MS} {H : Heap} {locs : List Loc} {n0 : Nat} {out : ((Nat × Int32 × Int32 × MS) ⊕ MS)} {ls : Array Slot} {x0 : Nat} {x2 : Int32} {x3 : Int32} (C0 : CX p s m args meth c RX0 cX0_reachPiece 7 D cy) (M : ST D cy ad A s.heap (ZN n0 s.heap.size) S H locs) (hr : meth.sig.returnType = none) (hF : bX0_reachPiece_9 S x0 x2 x3 = some out) (hl : lv_has ls 7 [(0, .ref (ad x0)), (2, .int x2), (3, .int x3)]) (Kr : ∀ r9, out = .inr r9 → r9 = S') (Kh0 : ∀ (y0 : Nat) (y1 : Int32) (y2 : Int32) (S2 : MS), out = .inl (y0, y1, y2, S2) → ∀ (H1 : Heap) (locs1 : List Loc) (ls1 : Array Slot), ST D cy ad A s.heap (ZN n0 s.heap.size) S2 H1 locs1 → lv_has ls1 7 [(0, .ref (ad y0)), (2, .int y1), (3, .int y2)] → W p l e rmX0_reachPiece s m args below meth c H1 locs1 0 0 (MQ below (QcM D cy ad A n0 S' (none)) args s 0 0 A) (F0 m 9 ls1 [])) : W p l e rmX0_reachPiece s m args below meth c H locs 0 0 (MQ below (QcM D cy ad A n0 S' (none)) args s 0 0 A) (F0 m 9 ls []) := by
  unfold bX0_reachPiece_9 at hF
  obtain ⟨hx, hb, -, hown, -, hts, -⟩ := id C0
  refine lv_iload_n hx hb dX0_reachPiece_9 rfl (lv_at hl 2 rfl) ?_
  refine lv_iload_n hx hb dX0_reachPiece_10 rfl (lv_at hl 1 rfl) ?_
  refine lv_icmp_ge (tgt := 115) hx hb dX0_reachPiece_11 (by decide) (fun hc => ?_) (fun hc => ?_)
  · have hF := oi_t hc hF
    exact wX0_reachPiece_115 ad A C0 M hr hF (lv_sub hl [] rfl) Kr Kh0
  · have hF := oi_f hc hF
    refine lv_iload_n hx hb dX0_reachPiece_14 rfl (lv_at hl 2 rfl) ?_
    refine lv_sipush (v := (144 : Int32)) hx hb dX0_reachPiece_15 (by decide) ?_
    refine lv_icmp_ge (tgt := 115) hx hb dX0_reachPiece_18 (by decide) (fun hc => ?_) (fun hc => ?_)
    · have hF := oi_t hc hF
      exact wX0_reachPiece_115 ad A C0 M hr hF (lv_sub hl [] rfl) Kr Kh0
    · have hF := oi_f hc hF
      refine lv_aload_n hx hb dX0_reachPiece_21 rfl (lv_at hl 0 rfl) ?_
      obtain ⟨v22, hv, hF⟩ := ob hF
      refine k_getP C0 M.1 hv fl_X0_41 dX0_reachPiece_22 ?_
      refine lv_iload_n hx hb dX0_reachPiece_25 rfl (lv_at hl 2 rfl) ?_
      obtain ⟨v26, hv, hF⟩ := ob hF
      refine k_ld C0 M.1 hv dX0_reachPiece_26 ?_
      refine lv_istore (lv' := [(4, .int v26), (0, .ref (ad x0)), (2, .int x2), (3, .int x3)]) hx hb dX0_reachPiece_27 hl (by decide) rfl (fun ls hl => ?_)
      refine lv_iload hx hb dX0_reachPiece_29 (lv_at hl 0 rfl) ?_
      refine lv_bipush (v := (12 : Int32)) hx hb dX0_reachPiece_31 (by decide) ?_
      refine lv_irem hx hb dX0_reachPiece_33 (by decide) ?_
      obtain ⟨v34, hv, hF⟩ := ob hF
      have hv := vtI hv
      refine vtopi hv ?_
      refine lv_istore (lv' := [(5, .int v34), (4, .int v26), (0, .ref (ad x0)), (2, .int x2), (3, .int x3)]) hx hb dX0_reachPiece_34 hl (by decide) rfl (fun ls hl => ?_)
      refine lv_iload hx hb dX0_reachPiece_36 (lv_at hl 1 rfl) ?_
      refine lv_bipush (v := (12 : Int32)) hx hb dX0_reachPiece_38 (by decide) ?_
      refine lv_idiv hx hb dX0_reachPiece_40 (by decide) ?_
      obtain ⟨v41, hv, hF⟩ := ob hF
      have hv := vtI hv
      refine vtopi hv ?_
      refine lv_istore (lv' := [(6, .int v41), (5, .int v34), (4, .int v26), (0, .ref (ad x0)), (2, .int x2), (3, .int x3)]) hx hb dX0_reachPiece_41 hl (by decide) rfl (fun ls hl => ?_)
      refine lv_iload hx hb dX0_reachPiece_43 (lv_at hl 1 rfl) ?_
      refine lv_if_le (tgt := 58) hx hb dX0_reachPiece_45 (by decide) (fun hc => ?_) (fun hc => ?_)
      · have hF := oi_t hc hF
        exact wX0_reachPiece_58 ad A C0 M hr hF (lv_sub hl [3, 4, 5, 2, 1, 0] rfl) Kr Kh0
      · have hF := oi_f hc hF
        refine lv_aload_n hx hb dX0_reachPiece_48 rfl (lv_at hl 3 rfl) ?_
        refine lv_iload hx hb dX0_reachPiece_49 (lv_at hl 2 rfl) ?_
        refine lv_iconst (v := (1 : Int32)) hx hb dX0_reachPiece_51 (by decide) ?_
        refine lv_isub hx hb dX0_reachPiece_52 ?_
        refine lv_iload_n hx hb dX0_reachPiece_53 rfl (lv_at hl 4 rfl) ?_
        obtain ⟨_, hrec, hF⟩ := ob hF
        obtain ⟨v54, S54, hcl, hF⟩ := ob2 hF
        refine go_MI (r_V (rest := []) (As := [.int (v26 - (1 : Int32)), .int x2]) C0 cb_X0_114 M.1 hrec (tX0_reach l D cy ad A hcl) (pre_R C0 M.1) hl dX0_reachPiece_54 rfl (Nat.le_of_ble_eq_true rfl) ⟨rfl, rfl⟩ ⟨Nat.le_of_ble_eq_true rfl, Nat.le_of_ble_eq_true rfl⟩ ⟨Nat.le_of_ble_eq_true rfl, Nat.le_of_ble_eq_true rfl⟩ rfl) M (fun H locs M => ?_)
        refine lv_istore_n (lv' := [(2, .int v54), (6, .int v41), (5, .int v34), (4, .int v26), (0, .ref (ad x0)), (3, .int x3)]) hx hb dX0_reachPiece_57 rfl hl (by decide) rfl (fun ls hl => ?_)
        exact wX0_reachPiece_58 ad A C0 M hr hF (lv_sub hl [4, 0, 5, 3, 2, 1] rfl) Kr Kh0
set_option maxHeartbeats 4000000 in
set_option maxRecDepth 100000 in
theorem tX0_reachPiece (l : Launch) (D : va_G) (cy : Nat → ClassId) (ad : Nat → Nat) (A : Nat → Prop) {S S' : MS} {a0 : Nat} {a1 : Int32} (h : fX0_reachPiece S a0 a1 = some S') : Met l yX0_reachPiece [Cond.code yX0_reachPiece cX0_reachPiece 7 (none)] rmX0_reachPiece (PcR D cy ad A S [.ref (ad a0), .int a1]) (QcM D cy ad A (m_n S) S' (none)) 0 0 A := by
  refine met_M (by decide +kernel) cw_X0_reachPiece (Nat.le_of_ble_eq_true rfl) ?_
  intro p e s m args below meth c ls C0 M hr hin hl
  have hl : lv_has ls 7 [(0, .ref (ad a0)), (1, .int a1)] := hl
  have key := lim_walk (step := sX0_reachPiece) (fun (q : (Nat × Int32 × Int32 × MS)) (r9 : MS) => ∀ (S' : MS), r9 = S' → ((∀ (y0 : Nat) (y1 : Int32) (y2 : Int32) (S2 : MS), q = (y0, y1, y2, S2) → ∀ (H1 : Heap) (locs1 : List Loc) (ls1 : Array Slot), ST D cy ad A s.heap (ZN (m_n S) s.heap.size) S2 H1 locs1 → lv_has ls1 7 [(0, .ref (ad y0)), (2, .int y1), (3, .int y2)] → W p l e rmX0_reachPiece s m args below meth c H1 locs1 0 0 (MQ below (QcM D cy ad A (m_n S) S' (none)) args s 0 0 A) (F0 m 9 ls1 [])))) ?_
  · unfold fX0_reachPiece at h
    cases hs0 : bX0_reachPiece_0 S a0 a1 with
    | none => rw [hs0] at h; cases h
    | some out =>
      rw [hs0] at h
      refine wX0_reachPiece_0 ad A C0 M hr hs0 hl (fun r9 hr9 => ?_) ?_
      · subst hr9; exact Option.some.inj h
      · intro y0 y1 y2 y3 hq; subst hq; exact (key _ _ h _ rfl) _ _ _ _ rfl
  · intro q r9 out hst hre hin9
    intro S' er; subst er
    refine ?_
    · intro y0 y1 y2 y3 hq H1 locs1 ls1 M hl
      subst hq
      exact wX0_reachPiece_9 ad A C0 M hr hst hl hre (fun k0 k1 k2 k3 hk => (hin9 _ hk _ rfl) _ _ _ _ rfl)
set_option maxHeartbeats 4000000 in
set_option maxRecDepth 100000 in
theorem wX0_countPieces_0 {p : Program} {l : Launch} {e : Env} {s : State} {m : MethodId} {args : Array Value} {below : List Frame} {meth : Method} {c : Code} {D : va_G} {cy : Nat → ClassId} (ad : Nat → Nat) (A : Nat → Prop) {S : MS} {S' : MS} {H : Heap} {locs : List Loc} {n0 : Nat} {r : Int32} {out : (((Nat × Int32 × Int32 × Int32 × MS) ⊕ (Nat × Int32 × Int32 × MS)) ⊕ (Int32 × MS))} {ls : Array Slot} {x0 : Nat} {x1 : Int32} {x2 : Int32} (C0 : CX p s m args meth c RX0 cX0_countPieces 5 D cy) (M : ST D cy ad A s.heap (ZN n0 s.heap.size) S H locs) (hr : meth.sig.returnType = some .int) (hF : bX0_countPieces_0 S x0 x1 x2 = some out) (hl : lv_has ls 5 [(0, .ref (ad x0)), (1, .int x1), (2, .int x2)]) (Kr : ∀ r9, out = .inr r9 → r9 = (r, S')) (Kh0 : ∀ (y0 : Nat) (y1 : Int32) (y2 : Int32) (y3 : Int32) (S2 : MS), out = .inl (.inl (y0, y1, y2, y3, S2)) → ∀ (H1 : Heap) (locs1 : List Loc) (ls1 : Array Slot), ST D cy ad A s.heap (ZN n0 s.heap.size) S2 H1 locs1 → lv_has ls1 5 [(0, .ref (ad y0)), (1, .int y1), (2, .int y2), (3, .int y3)] → W p l e rmX0_countPieces s m args below meth c H1 locs1 0 0 (MQ below (QcM D cy ad A n0 S' (some (.int r))) args s 0 0 A) (F0 m 2 ls1 [])) (Kh1 : ∀ (y0 : Nat) (y1 : Int32) (y2 : Int32) (S2 : MS), out = .inl (.inr (y0, y1, y2, S2)) → ∀ (H1 : Heap) (locs1 : List Loc) (ls1 : Array Slot), ST D cy ad A s.heap (ZN n0 s.heap.size) S2 H1 locs1 → lv_has ls1 5 [(0, .ref (ad y0)), (3, .int y1), (4, .int y2)] → W p l e rmX0_countPieces s m args below meth c H1 locs1 0 0 (MQ below (QcM D cy ad A n0 S' (some (.int r))) args s 0 0 A) (F0 m 50 ls1 [])) : W p l e rmX0_countPieces s m args below meth c H locs 0 0 (MQ below (QcM D cy ad A n0 S' (some (.int r))) args s 0 0 A) (F0 m 0 ls []) := by
  unfold bX0_countPieces_0 at hF
  obtain ⟨hx, hb, -, hown, -, hts, -⟩ := id C0
  refine lv_iconst (v := (0 : Int32)) hx hb dX0_countPieces_0 (by decide) ?_
  refine lv_istore_n (lv' := [(3, .int (0 : Int32)), (0, .ref (ad x0)), (1, .int x1), (2, .int x2)]) hx hb dX0_countPieces_1 rfl hl (by decide) rfl (fun ls hl => ?_)
  exact Kh0 _ _ _ _ _ (Option.some.inj hF).symm _ _ _ M (lv_sub hl [1, 2, 3, 0] rfl)
set_option maxHeartbeats 4000000 in
set_option maxRecDepth 100000 in
theorem wX0_countPieces_38 {p : Program} {l : Launch} {e : Env} {s : State} {m : MethodId} {args : Array Value} {below : List Frame} {meth : Method} {c : Code} {D : va_G} {cy : Nat → ClassId} (ad : Nat → Nat) (A : Nat → Prop) {S : MS} {S' : MS} {H : Heap} {locs : List Loc} {n0 : Nat} {r : Int32} {out : (((Nat × Int32 × Int32 × Int32 × MS) ⊕ (Nat × Int32 × Int32 × MS)) ⊕ (Int32 × MS))} {ls : Array Slot} {x0 : Nat} {x1 : Int32} {x2 : Int32} {x3 : Int32} {z0 : Nat} {z1 : Int32} {z2 : Int32} (C0 : CX p s m args meth c RX0 cX0_countPieces 5 D cy) (M : ST D cy ad A s.heap (ZN n0 s.heap.size) S H locs) (hr : meth.sig.returnType = some .int) (hF : bX0_countPieces_38 S x0 x1 x2 x3 z0 z1 z2 = some out) (hl : lv_has ls 5 [(0, .ref (ad x0)), (1, .int x1), (2, .int x2), (3, .int x3)]) (Kr : ∀ r9, out = .inr r9 → r9 = (r, S')) (Kh0 : ∀ (y0 : Nat) (y1 : Int32) (y2 : Int32) (y3 : Int32) (S2 : MS), out = .inl (.inl (y0, y1, y2, y3, S2)) → ∀ (H1 : Heap) (locs1 : List Loc) (ls1 : Array Slot), ST D cy ad A s.heap (ZN n0 s.heap.size) S2 H1 locs1 → lv_has ls1 5 [(0, .ref (ad y0)), (1, .int y1), (2, .int y2), (3, .int y3)] → W p l e rmX0_countPieces s m args below meth c H1 locs1 0 0 (MQ below (QcM D cy ad A n0 S' (some (.int r))) args s 0 0 A) (F0 m 2 ls1 [])) (Kh1 : ∀ (y0 : Nat) (y1 : Int32) (y2 : Int32) (S2 : MS), out = .inl (.inr (y0, y1, y2, S2)) → ∀ (H1 : Heap) (locs1 : List Loc) (ls1 : Array Slot), ST D cy ad A s.heap (ZN n0 s.heap.size) S2 H1 locs1 → lv_has ls1 5 [(0, .ref (ad y0)), (3, .int y1), (4, .int y2)] → W p l e rmX0_countPieces s m args below meth c H1 locs1 0 0 (MQ below (QcM D cy ad A n0 S' (some (.int r))) args s 0 0 A) (F0 m 50 ls1 [])) : W p l e rmX0_countPieces s m args below meth c H locs 0 0 (MQ below (QcM D cy ad A n0 S' (some (.int r))) args s 0 0 A) (F0 m 38 ls [.int z2, .int z1, .ref (ad z0)]) := by
  unfold bX0_countPieces_38 at hF
  obtain ⟨hx, hb, -, hown, -, hts, -⟩ := id C0
  obtain ⟨z38, hz, hF⟩ := ob hF
  have hz2 := (o_if hz).2
  refine vtopi hz2 ?_
  rw [hz2] at hz
  obtain ⟨S38, hv, hF⟩ := ob hF
  refine k_stZ C0 M hz hv dX0_countPieces_38 (fun H locs M => ?_)
  obtain ⟨v39, hv, hF⟩ := ob hF
  refine lv_iinc (v := v39) (lv' := [(3, .int v39), (0, .ref (ad x0)), (1, .int x1), (2, .int x2)]) hx hb dX0_countPieces_39 hl (k := 3) rfl (by rw [← vtI hv]; rfl) (by decide) rfl (fun ls hl => ?_)
  refine lv_goto (tgt := 2) hx hb dX0_countPieces_42 (by decide) ?_
  exact Kh0 _ _ _ _ _ (Option.some.inj hF).symm _ _ _ M (lv_sub hl [1, 2, 3, 0] rfl)
set_option maxHeartbeats 4000000 in
set_option maxRecDepth 100000 in
theorem wX0_countPieces_29 {p : Program} {l : Launch} {e : Env} {s : State} {m : MethodId} {args : Array Value} {below : List Frame} {meth : Method} {c : Code} {D : va_G} {cy : Nat → ClassId} (ad : Nat → Nat) (A : Nat → Prop) {S : MS} {S' : MS} {H : Heap} {locs : List Loc} {n0 : Nat} {r : Int32} {out : (((Nat × Int32 × Int32 × Int32 × MS) ⊕ (Nat × Int32 × Int32 × MS)) ⊕ (Int32 × MS))} {ls : Array Slot} {x0 : Nat} {x1 : Int32} {x2 : Int32} {x3 : Int32} {z0 : Nat} {z1 : Int32} {z2 : Int32} (C0 : CX p s m args meth c RX0 cX0_countPieces 5 D cy) (M : ST D cy ad A s.heap (ZN n0 s.heap.size) S H locs) (hr : meth.sig.returnType = some .int) (hF : bX0_countPieces_29 S x0 x1 x2 x3 z0 z1 z2 = some out) (hl : lv_has ls 5 [(0, .ref (ad x0)), (1, .int x1), (2, .int x2), (3, .int x3)]) (Kr : ∀ r9, out = .inr r9 → r9 = (r, S')) (Kh0 : ∀ (y0 : Nat) (y1 : Int32) (y2 : Int32) (y3 : Int32) (S2 : MS), out = .inl (.inl (y0, y1, y2, y3, S2)) → ∀ (H1 : Heap) (locs1 : List Loc) (ls1 : Array Slot), ST D cy ad A s.heap (ZN n0 s.heap.size) S2 H1 locs1 → lv_has ls1 5 [(0, .ref (ad y0)), (1, .int y1), (2, .int y2), (3, .int y3)] → W p l e rmX0_countPieces s m args below meth c H1 locs1 0 0 (MQ below (QcM D cy ad A n0 S' (some (.int r))) args s 0 0 A) (F0 m 2 ls1 [])) (Kh1 : ∀ (y0 : Nat) (y1 : Int32) (y2 : Int32) (S2 : MS), out = .inl (.inr (y0, y1, y2, S2)) → ∀ (H1 : Heap) (locs1 : List Loc) (ls1 : Array Slot), ST D cy ad A s.heap (ZN n0 s.heap.size) S2 H1 locs1 → lv_has ls1 5 [(0, .ref (ad y0)), (3, .int y1), (4, .int y2)] → W p l e rmX0_countPieces s m args below meth c H1 locs1 0 0 (MQ below (QcM D cy ad A n0 S' (some (.int r))) args s 0 0 A) (F0 m 50 ls1 [])) : W p l e rmX0_countPieces s m args below meth c H locs 0 0 (MQ below (QcM D cy ad A n0 S' (some (.int r))) args s 0 0 A) (F0 m 29 ls [.int z2, .int z1, .ref (ad z0)]) := by
  unfold bX0_countPieces_29 at hF
  obtain ⟨hx, hb, -, hown, -, hts, -⟩ := id C0
  refine lv_iload_n hx hb dX0_countPieces_29 rfl (lv_at hl 2 rfl) ?_
  refine lv_icmp_eq (tgt := 37) hx hb dX0_countPieces_30 (by decide) (fun hc => ?_) (fun hc => ?_)
  · have hF := oi_t hc hF
    refine lv_iconst (v := (0 : Int32)) hx hb dX0_countPieces_37 (by decide) ?_
    exact wX0_countPieces_38 ad A C0 M hr hF (lv_sub hl [0, 1, 2, 3] rfl) Kr Kh0 Kh1
  · have hF := oi_f hc hF
    refine lv_iconst (v := (1 : Int32)) hx hb dX0_countPieces_33 (by decide) ?_
    refine lv_goto (tgt := 38) hx hb dX0_countPieces_34 (by decide) ?_
    exact wX0_countPieces_38 ad A C0 M hr hF (lv_sub hl [0, 1, 2, 3] rfl) Kr Kh0 Kh1
set_option maxHeartbeats 4000000 in
set_option maxRecDepth 100000 in
theorem wX0_countPieces_2 {p : Program} {l : Launch} {e : Env} {s : State} {m : MethodId} {args : Array Value} {below : List Frame} {meth : Method} {c : Code} {D : va_G} {cy : Nat → ClassId} (ad : Nat → Nat) (A : Nat → Prop) {S : MS} {S' : MS} {H : Heap} {locs : List Loc} {n0 : Nat} {r : Int32} {out : (((Nat × Int32 × Int32 × Int32 × MS) ⊕ (Nat × Int32 × Int32 × MS)) ⊕ (Int32 × MS))} {ls : Array Slot} {x0 : Nat} {x1 : Int32} {x2 : Int32} {x3 : Int32} (C0 : CX p s m args meth c RX0 cX0_countPieces 5 D cy) (M : ST D cy ad A s.heap (ZN n0 s.heap.size) S H locs) (hr : meth.sig.returnType = some .int) (hF : bX0_countPieces_2 S x0 x1 x2 x3 = some out) (hl : lv_has ls 5 [(0, .ref (ad x0)), (1, .int x1), (2, .int x2), (3, .int x3)]) (Kr : ∀ r9, out = .inr r9 → r9 = (r, S')) (Kh0 : ∀ (y0 : Nat) (y1 : Int32) (y2 : Int32) (y3 : Int32) (S2 : MS), out = .inl (.inl (y0, y1, y2, y3, S2)) → ∀ (H1 : Heap) (locs1 : List Loc) (ls1 : Array Slot), ST D cy ad A s.heap (ZN n0 s.heap.size) S2 H1 locs1 → lv_has ls1 5 [(0, .ref (ad y0)), (1, .int y1), (2, .int y2), (3, .int y3)] → W p l e rmX0_countPieces s m args below meth c H1 locs1 0 0 (MQ below (QcM D cy ad A n0 S' (some (.int r))) args s 0 0 A) (F0 m 2 ls1 [])) (Kh1 : ∀ (y0 : Nat) (y1 : Int32) (y2 : Int32) (S2 : MS), out = .inl (.inr (y0, y1, y2, S2)) → ∀ (H1 : Heap) (locs1 : List Loc) (ls1 : Array Slot), ST D cy ad A s.heap (ZN n0 s.heap.size) S2 H1 locs1 → lv_has ls1 5 [(0, .ref (ad y0)), (3, .int y1), (4, .int y2)] → W p l e rmX0_countPieces s m args below meth c H1 locs1 0 0 (MQ below (QcM D cy ad A n0 S' (some (.int r))) args s 0 0 A) (F0 m 50 ls1 [])) : W p l e rmX0_countPieces s m args below meth c H locs 0 0 (MQ below (QcM D cy ad A n0 S' (some (.int r))) args s 0 0 A) (F0 m 2 ls []) := by
  unfold bX0_countPieces_2 at hF
  obtain ⟨hx, hb, -, hown, -, hts, -⟩ := id C0
  refine lv_iload_n hx hb dX0_countPieces_2 rfl (lv_at hl 3 rfl) ?_
  refine lv_sipush (v := (144 : Int32)) hx hb dX0_countPieces_3 (by decide) ?_
  refine lv_icmp_ge (tgt := 45) hx hb dX0_countPieces_6 (by decide) (fun hc => ?_) (fun hc => ?_)
  · have hF := oi_t hc hF
    refine lv_iconst (v := (0 : Int32)) hx hb dX0_countPieces_45 (by decide) ?_
    refine lv_istore_n (lv' := [(3, .int (0 : Int32)), (0, .ref (ad x0)), (1, .int x1), (2, .int x2)]) hx hb dX0_countPieces_46 rfl hl (by decide) rfl (fun ls hl => ?_)
    refine lv_iconst (v := (0 : Int32)) hx hb dX0_countPieces_47 (by decide) ?_
    refine lv_istore (lv' := [(4, .int (0 : Int32)), (3, .int (0 : Int32)), (0, .ref (ad x0)), (1, .int x1), (2, .int x2)]) hx hb dX0_countPieces_48 hl (by decide) rfl (fun ls hl => ?_)
    exact Kh1 _ _ _ _ (Option.some.inj hF).symm _ _ _ M (lv_sub hl [2, 1, 0] rfl)
  · have hF := oi_f hc hF
    refine lv_aload_n hx hb dX0_countPieces_9 rfl (lv_at hl 0 rfl) ?_
    obtain ⟨v10, hv, hF⟩ := ob hF
    refine k_getP C0 M.1 hv fl_X0_37 dX0_countPieces_10 ?_
    refine lv_iload_n hx hb dX0_countPieces_13 rfl (lv_at hl 3 rfl) ?_
    refine lv_aload_n hx hb dX0_countPieces_14 rfl (lv_at hl 0 rfl) ?_
    obtain ⟨v15, hv, hF⟩ := ob hF
    refine k_getP C0 M.1 hv fl_X0_25 dX0_countPieces_15 ?_
    refine lv_iload_n hx hb dX0_countPieces_18 rfl (lv_at hl 3 rfl) ?_
    obtain ⟨v19, hv, hF⟩ := ob hF
    refine k_ld C0 M.1 hv dX0_countPieces_19 ?_
    refine lv_iload_n hx hb dX0_countPieces_20 rfl (lv_at hl 1 rfl) ?_
    refine lv_icmp_ge (tgt := 28) hx hb dX0_countPieces_21 (by decide) (fun hc => ?_) (fun hc => ?_)
    · have hF := oi_t hc hF
      refine lv_iconst (v := (0 : Int32)) hx hb dX0_countPieces_28 (by decide) ?_
      exact wX0_countPieces_29 ad A C0 M hr hF (lv_sub hl [0, 1, 2, 3] rfl) Kr Kh0 Kh1
    · have hF := oi_f hc hF
      refine lv_iconst (v := (1 : Int32)) hx hb dX0_countPieces_24 (by decide) ?_
      refine lv_goto (tgt := 29) hx hb dX0_countPieces_25 (by decide) ?_
      exact wX0_countPieces_29 ad A C0 M hr hF (lv_sub hl [0, 1, 2, 3] rfl) Kr Kh0 Kh1
set_option maxHeartbeats 4000000 in
set_option maxRecDepth 100000 in
theorem wX0_countPieces_77 {p : Program} {l : Launch} {e : Env} {s : State} {m : MethodId} {args : Array Value} {below : List Frame} {meth : Method} {c : Code} {D : va_G} {cy : Nat → ClassId} (ad : Nat → Nat) (A : Nat → Prop) {S : MS} {S' : MS} {H : Heap} {locs : List Loc} {n0 : Nat} {r : Int32} {out : (((Nat × Int32 × Int32 × Int32 × MS) ⊕ (Nat × Int32 × Int32 × MS)) ⊕ (Int32 × MS))} {ls : Array Slot} {x0 : Nat} {x3 : Int32} {x4 : Int32} (C0 : CX p s m args meth c RX0 cX0_countPieces 5 D cy) (M : ST D cy ad A s.heap (ZN n0 s.heap.size) S H locs) (hr : meth.sig.returnType = some .int) (hF : bX0_countPieces_77 S x0 x3 x4 = some out) (hl : lv_has ls 5 [(0, .ref (ad x0)), (3, .int x3), (4, .int x4)]) (Kr : ∀ r9, out = .inr r9 → r9 = (r, S')) (Kh0 : ∀ (y0 : Nat) (y1 : Int32) (y2 : Int32) (y3 : Int32) (S2 : MS), out = .inl (.inl (y0, y1, y2, y3, S2)) → ∀ (H1 : Heap) (locs1 : List Loc) (ls1 : Array Slot), ST D cy ad A s.heap (ZN n0 s.heap.size) S2 H1 locs1 → lv_has ls1 5 [(0, .ref (ad y0)), (1, .int y1), (2, .int y2), (3, .int y3)] → W p l e rmX0_countPieces s m args below meth c H1 locs1 0 0 (MQ below (QcM D cy ad A n0 S' (some (.int r))) args s 0 0 A) (F0 m 2 ls1 [])) (Kh1 : ∀ (y0 : Nat) (y1 : Int32) (y2 : Int32) (S2 : MS), out = .inl (.inr (y0, y1, y2, S2)) → ∀ (H1 : Heap) (locs1 : List Loc) (ls1 : Array Slot), ST D cy ad A s.heap (ZN n0 s.heap.size) S2 H1 locs1 → lv_has ls1 5 [(0, .ref (ad y0)), (3, .int y1), (4, .int y2)] → W p l e rmX0_countPieces s m args below meth c H1 locs1 0 0 (MQ below (QcM D cy ad A n0 S' (some (.int r))) args s 0 0 A) (F0 m 50 ls1 [])) : W p l e rmX0_countPieces s m args below meth c H locs 0 0 (MQ below (QcM D cy ad A n0 S' (some (.int r))) args s 0 0 A) (F0 m 77 ls []) := by
  unfold bX0_countPieces_77 at hF
  obtain ⟨hx, hb, -, hown, -, hts, -⟩ := id C0
  obtain ⟨v77, hv, hF⟩ := ob hF
  refine lv_iinc (v := v77) (lv' := [(4, .int v77), (0, .ref (ad x0)), (3, .int x3)]) hx hb dX0_countPieces_77 hl (k := 2) rfl (by rw [← vtI hv]; rfl) (by decide) rfl (fun ls hl => ?_)
  refine lv_goto (tgt := 50) hx hb dX0_countPieces_80 (by decide) ?_
  exact Kh1 _ _ _ _ (Option.some.inj hF).symm _ _ _ M (lv_sub hl [1, 2, 0] rfl)
set_option maxHeartbeats 4000000 in
set_option maxRecDepth 100000 in
theorem wX0_countPieces_50 {p : Program} {l : Launch} {e : Env} {s : State} {m : MethodId} {args : Array Value} {below : List Frame} {meth : Method} {c : Code} {D : va_G} {cy : Nat → ClassId} (ad : Nat → Nat) (A : Nat → Prop) {S : MS} {S' : MS} {H : Heap} {locs : List Loc} {n0 : Nat} {r : Int32} {out : (((Nat × Int32 × Int32 × Int32 × MS) ⊕ (Nat × Int32 × Int32 × MS)) ⊕ (Int32 × MS))} {ls : Array Slot} {x0 : Nat} {x3 : Int32} {x4 : Int32} (C0 : CX p s m args meth c RX0 cX0_countPieces 5 D cy) (M : ST D cy ad A s.heap (ZN n0 s.heap.size) S H locs) (hr : meth.sig.returnType = some .int) (hF : bX0_countPieces_50 S x0 x3 x4 = some out) (hl : lv_has ls 5 [(0, .ref (ad x0)), (3, .int x3), (4, .int x4)]) (Kr : ∀ r9, out = .inr r9 → r9 = (r, S')) (Kh0 : ∀ (y0 : Nat) (y1 : Int32) (y2 : Int32) (y3 : Int32) (S2 : MS), out = .inl (.inl (y0, y1, y2, y3, S2)) → ∀ (H1 : Heap) (locs1 : List Loc) (ls1 : Array Slot), ST D cy ad A s.heap (ZN n0 s.heap.size) S2 H1 locs1 → lv_has ls1 5 [(0, .ref (ad y0)), (1, .int y1), (2, .int y2), (3, .int y3)] → W p l e rmX0_countPieces s m args below meth c H1 locs1 0 0 (MQ below (QcM D cy ad A n0 S' (some (.int r))) args s 0 0 A) (F0 m 2 ls1 [])) (Kh1 : ∀ (y0 : Nat) (y1 : Int32) (y2 : Int32) (S2 : MS), out = .inl (.inr (y0, y1, y2, S2)) → ∀ (H1 : Heap) (locs1 : List Loc) (ls1 : Array Slot), ST D cy ad A s.heap (ZN n0 s.heap.size) S2 H1 locs1 → lv_has ls1 5 [(0, .ref (ad y0)), (3, .int y1), (4, .int y2)] → W p l e rmX0_countPieces s m args below meth c H1 locs1 0 0 (MQ below (QcM D cy ad A n0 S' (some (.int r))) args s 0 0 A) (F0 m 50 ls1 [])) : W p l e rmX0_countPieces s m args below meth c H locs 0 0 (MQ below (QcM D cy ad A n0 S' (some (.int r))) args s 0 0 A) (F0 m 50 ls []) := by
  unfold bX0_countPieces_50 at hF
  obtain ⟨hx, hb, -, hown, -, hts, -⟩ := id C0
  refine lv_iload hx hb dX0_countPieces_50 (lv_at hl 2 rfl) ?_
  refine lv_sipush (v := (144 : Int32)) hx hb dX0_countPieces_52 (by decide) ?_
  refine lv_icmp_ge (tgt := 83) hx hb dX0_countPieces_55 (by decide) (fun hc => ?_) (fun hc => ?_)
  · have hF := oi_t hc hF
    refine lv_iload_n hx hb dX0_countPieces_83 rfl (lv_at hl 1 rfl) ?_
    obtain ⟨rfl, rfl⟩ := Prod.mk.inj (Kr _ (Option.some.inj hF).symm)
    exact rt_MI C0 M hr dX0_countPieces_84
  · have hF := oi_f hc hF
    refine lv_aload_n hx hb dX0_countPieces_58 rfl (lv_at hl 0 rfl) ?_
    obtain ⟨v59, hv, hF⟩ := ob hF
    refine k_getP C0 M.1 hv fl_X0_37 dX0_countPieces_59 ?_
    refine lv_iload hx hb dX0_countPieces_62 (lv_at hl 2 rfl) ?_
    obtain ⟨v64, hv, hF⟩ := ob hF
    refine k_ldZ C0 M.1 hv dX0_countPieces_64 ?_
    refine lv_if_ne (tgt := 77) hx hb dX0_countPieces_65 (by decide) (fun hc => ?_) (fun hc => ?_)
    · have hF := oi_f hc hF
      exact wX0_countPieces_77 ad A C0 M hr hF (lv_sub hl [0, 1, 2] rfl) Kr Kh0 Kh1
    · have hF := oi_t hc hF
      obtain ⟨v68, hv, hF⟩ := ob hF
      refine lv_iinc (v := v68) (lv' := [(3, .int v68), (0, .ref (ad x0)), (4, .int x4)]) hx hb dX0_countPieces_68 hl (k := 1) rfl (by rw [← vtI hv]; rfl) (by decide) rfl (fun ls hl => ?_)
      refine lv_aload_n hx hb dX0_countPieces_71 rfl (lv_at hl 1 rfl) ?_
      refine lv_iload hx hb dX0_countPieces_72 (lv_at hl 2 rfl) ?_
      obtain ⟨_, hrec, hF⟩ := ob hF
      obtain ⟨S74, hcl, hF⟩ := ob hF
      refine go_MV (r_V (rest := []) (As := [.int x4]) C0 cb_X0_110 M.1 hrec (tX0_reachPiece l D cy ad A hcl) (pre_R C0 M.1) hl dX0_countPieces_74 rfl (Nat.le_of_ble_eq_true rfl) ⟨rfl, rfl⟩ ⟨Nat.le_of_ble_eq_true rfl, Nat.le_of_ble_eq_true rfl⟩ ⟨Nat.le_of_ble_eq_true rfl, Nat.le_of_ble_eq_true rfl⟩ rfl) M (fun H locs M => ?_)
      exact wX0_countPieces_77 ad A C0 M hr hF (lv_sub hl [1, 0, 2] rfl) Kr Kh0 Kh1
set_option maxHeartbeats 4000000 in
set_option maxRecDepth 100000 in
theorem tX0_countPieces (l : Launch) (D : va_G) (cy : Nat → ClassId) (ad : Nat → Nat) (A : Nat → Prop) {S S' : MS} {a0 : Nat} {a1 : Int32} {a2 : Int32} {r : Int32} (h : fX0_countPieces S a0 a1 a2 = some (r, S')) : Met l yX0_countPieces [Cond.code yX0_countPieces cX0_countPieces 5 (some .int)] rmX0_countPieces (PcR D cy ad A S [.ref (ad a0), .int a1, .int a2]) (QcM D cy ad A (m_n S) S' (some (.int r))) 0 0 A := by
  refine met_M (by decide +kernel) cw_X0_countPieces (Nat.le_of_ble_eq_true rfl) ?_
  intro p e s m args below meth c ls C0 M hr hin hl
  have hl : lv_has ls 5 [(0, .ref (ad a0)), (1, .int a1), (2, .int a2)] := hl
  have key := lim_walk (step := sX0_countPieces) (fun (q : ((Nat × Int32 × Int32 × Int32 × MS) ⊕ (Nat × Int32 × Int32 × MS))) (r9 : (Int32 × MS)) => ∀ (r : Int32) (S' : MS), r9 = (r, S') → ((∀ (y0 : Nat) (y1 : Int32) (y2 : Int32) (y3 : Int32) (S2 : MS), q = (.inl (y0, y1, y2, y3, S2)) → ∀ (H1 : Heap) (locs1 : List Loc) (ls1 : Array Slot), ST D cy ad A s.heap (ZN (m_n S) s.heap.size) S2 H1 locs1 → lv_has ls1 5 [(0, .ref (ad y0)), (1, .int y1), (2, .int y2), (3, .int y3)] → W p l e rmX0_countPieces s m args below meth c H1 locs1 0 0 (MQ below (QcM D cy ad A (m_n S) S' (some (.int r))) args s 0 0 A) (F0 m 2 ls1 [])) ∧ (∀ (y0 : Nat) (y1 : Int32) (y2 : Int32) (S2 : MS), q = (.inr (y0, y1, y2, S2)) → ∀ (H1 : Heap) (locs1 : List Loc) (ls1 : Array Slot), ST D cy ad A s.heap (ZN (m_n S) s.heap.size) S2 H1 locs1 → lv_has ls1 5 [(0, .ref (ad y0)), (3, .int y1), (4, .int y2)] → W p l e rmX0_countPieces s m args below meth c H1 locs1 0 0 (MQ below (QcM D cy ad A (m_n S) S' (some (.int r))) args s 0 0 A) (F0 m 50 ls1 [])))) ?_
  · unfold fX0_countPieces at h
    cases hs0 : bX0_countPieces_0 S a0 a1 a2 with
    | none => rw [hs0] at h; cases h
    | some out =>
      rw [hs0] at h
      refine wX0_countPieces_0 ad A C0 M hr hs0 hl (fun r9 hr9 => ?_) ?_ ?_
      · subst hr9; exact Option.some.inj h
      · intro y0 y1 y2 y3 y4 hq; subst hq; exact (key _ _ h _ _ rfl).1 _ _ _ _ _ rfl
      · intro y0 y1 y2 y3 hq; subst hq; exact (key _ _ h _ _ rfl).2 _ _ _ _ rfl
  · intro q r9 out hst hre hin9
    intro r S' er; subst er
    refine ⟨?_, ?_⟩
    · intro y0 y1 y2 y3 y4 hq H1 locs1 ls1 M hl
      subst hq
      exact wX0_countPieces_2 ad A C0 M hr hst hl hre (fun k0 k1 k2 k3 k4 hk => (hin9 _ hk _ _ rfl).1 _ _ _ _ _ rfl) (fun k0 k1 k2 k3 hk => (hin9 _ hk _ _ rfl).2 _ _ _ _ rfl)
    · intro y0 y1 y2 y3 hq H1 locs1 ls1 M hl
      subst hq
      exact wX0_countPieces_50 ad A C0 M hr hst hl hre (fun k0 k1 k2 k3 k4 hk => (hin9 _ hk _ _ rfl).1 _ _ _ _ _ rfl) (fun k0 k1 k2 k3 hk => (hin9 _ hk _ _ rfl).2 _ _ _ _ rfl)
set_option maxHeartbeats 4000000 in
set_option maxRecDepth 100000 in
theorem wX0_countWrong_0 {p : Program} {l : Launch} {e : Env} {s : State} {m : MethodId} {args : Array Value} {below : List Frame} {meth : Method} {c : Code} {D : va_G} {cy : Nat → ClassId} (ad : Nat → Nat) (A : Nat → Prop) {S : MS} {r : Int32} {out : ((Nat × Nat × Int32 × Int32 × Int32) ⊕ Int32)} {ls : Array Slot} {x0 : Nat} {x1 : Nat} {x2 : Int32} (C0 : CX p s m args meth c RX0 cX0_countWrong 5 D cy) (M : MW D cy ad A S s.heap) (hr : meth.sig.returnType = some .int) (hF : bX0_countWrong_0 S x0 x1 x2 = some out) (hl : lv_has ls 5 [(0, .ref (ad x0)), (1, .ref (ad x1)), (2, .int x2)]) (Kr : ∀ r9, out = .inr r9 → r9 = r) (Kh0 : ∀ (y0 : Nat) (y1 : Nat) (y2 : Int32) (y3 : Int32) (y4 : Int32), out = .inl (y0, y1, y2, y3, y4) → ∀ (ls1 : Array Slot), lv_has ls1 5 [(0, .ref (ad y0)), (1, .ref (ad y1)), (2, .int y2), (3, .int y3), (4, .int y4)] → W p l e rmX0_countWrong s m args below meth c s.heap [] 0 0 (MQ below (QcS (some (.int r))) args s 0 0 (fun _ => False)) (F0 m 5 ls1 [])) : W p l e rmX0_countWrong s m args below meth c s.heap [] 0 0 (MQ below (QcS (some (.int r))) args s 0 0 (fun _ => False)) (F0 m 0 ls []) := by
  unfold bX0_countWrong_0 at hF
  obtain ⟨hx, hb, -, hown, -, hts, -⟩ := id C0
  refine lv_iconst (v := (0 : Int32)) hx hb dX0_countWrong_0 (by decide) ?_
  refine lv_istore_n (lv' := [(3, .int (0 : Int32)), (0, .ref (ad x0)), (1, .ref (ad x1)), (2, .int x2)]) hx hb dX0_countWrong_1 rfl hl (by decide) rfl (fun ls hl => ?_)
  refine lv_iconst (v := (0 : Int32)) hx hb dX0_countWrong_2 (by decide) ?_
  refine lv_istore (lv' := [(4, .int (0 : Int32)), (3, .int (0 : Int32)), (0, .ref (ad x0)), (1, .ref (ad x1)), (2, .int x2)]) hx hb dX0_countWrong_3 hl (by decide) rfl (fun ls hl => ?_)
  exact Kh0 _ _ _ _ _ (Option.some.inj hF).symm _ (lv_sub hl [2, 3, 4, 1, 0] rfl)
set_option maxHeartbeats 4000000 in
set_option maxRecDepth 100000 in
theorem wX0_countWrong_72 {p : Program} {l : Launch} {e : Env} {s : State} {m : MethodId} {args : Array Value} {below : List Frame} {meth : Method} {c : Code} {D : va_G} {cy : Nat → ClassId} (ad : Nat → Nat) (A : Nat → Prop) {S : MS} {r : Int32} {out : ((Nat × Nat × Int32 × Int32 × Int32) ⊕ Int32)} {ls : Array Slot} {x0 : Nat} {x1 : Nat} {x2 : Int32} {x3 : Int32} {x4 : Int32} (C0 : CX p s m args meth c RX0 cX0_countWrong 5 D cy) (M : MW D cy ad A S s.heap) (hr : meth.sig.returnType = some .int) (hF : bX0_countWrong_72 S x0 x1 x2 x3 x4 = some out) (hl : lv_has ls 5 [(0, .ref (ad x0)), (1, .ref (ad x1)), (2, .int x2), (3, .int x3), (4, .int x4)]) (Kr : ∀ r9, out = .inr r9 → r9 = r) (Kh0 : ∀ (y0 : Nat) (y1 : Nat) (y2 : Int32) (y3 : Int32) (y4 : Int32), out = .inl (y0, y1, y2, y3, y4) → ∀ (ls1 : Array Slot), lv_has ls1 5 [(0, .ref (ad y0)), (1, .ref (ad y1)), (2, .int y2), (3, .int y3), (4, .int y4)] → W p l e rmX0_countWrong s m args below meth c s.heap [] 0 0 (MQ below (QcS (some (.int r))) args s 0 0 (fun _ => False)) (F0 m 5 ls1 [])) : W p l e rmX0_countWrong s m args below meth c s.heap [] 0 0 (MQ below (QcS (some (.int r))) args s 0 0 (fun _ => False)) (F0 m 72 ls []) := by
  unfold bX0_countWrong_72 at hF
  obtain ⟨hx, hb, -, hown, -, hts, -⟩ := id C0
  obtain ⟨v72, hv, hF⟩ := ob hF
  refine lv_iinc (v := v72) (lv' := [(4, .int v72), (0, .ref (ad x0)), (1, .ref (ad x1)), (2, .int x2), (3, .int x3)]) hx hb dX0_countWrong_72 hl (k := 4) rfl (by rw [← vtI hv]; rfl) (by decide) rfl (fun ls hl => ?_)
  refine lv_goto (tgt := 5) hx hb dX0_countWrong_75 (by decide) ?_
  exact Kh0 _ _ _ _ _ (Option.some.inj hF).symm _ (lv_sub hl [1, 2, 3, 4, 0] rfl)
set_option maxHeartbeats 4000000 in
set_option maxRecDepth 100000 in
theorem wX0_countWrong_66 {p : Program} {l : Launch} {e : Env} {s : State} {m : MethodId} {args : Array Value} {below : List Frame} {meth : Method} {c : Code} {D : va_G} {cy : Nat → ClassId} (ad : Nat → Nat) (A : Nat → Prop) {S : MS} {r : Int32} {out : ((Nat × Nat × Int32 × Int32 × Int32) ⊕ Int32)} {ls : Array Slot} {x0 : Nat} {x1 : Nat} {x2 : Int32} {x3 : Int32} {x4 : Int32} {z0 : Int32} {z1 : Int32} (C0 : CX p s m args meth c RX0 cX0_countWrong 5 D cy) (M : MW D cy ad A S s.heap) (hr : meth.sig.returnType = some .int) (hF : bX0_countWrong_66 S x0 x1 x2 x3 x4 z0 z1 = some out) (hl : lv_has ls 5 [(0, .ref (ad x0)), (1, .ref (ad x1)), (2, .int x2), (3, .int x3), (4, .int x4)]) (Kr : ∀ r9, out = .inr r9 → r9 = r) (Kh0 : ∀ (y0 : Nat) (y1 : Nat) (y2 : Int32) (y3 : Int32) (y4 : Int32), out = .inl (y0, y1, y2, y3, y4) → ∀ (ls1 : Array Slot), lv_has ls1 5 [(0, .ref (ad y0)), (1, .ref (ad y1)), (2, .int y2), (3, .int y3), (4, .int y4)] → W p l e rmX0_countWrong s m args below meth c s.heap [] 0 0 (MQ below (QcS (some (.int r))) args s 0 0 (fun _ => False)) (F0 m 5 ls1 [])) : W p l e rmX0_countWrong s m args below meth c s.heap [] 0 0 (MQ below (QcS (some (.int r))) args s 0 0 (fun _ => False)) (F0 m 66 ls [.int z1, .int z0]) := by
  unfold bX0_countWrong_66 at hF
  obtain ⟨hx, hb, -, hown, -, hts, -⟩ := id C0
  refine lv_icmp_eq (tgt := 72) hx hb dX0_countWrong_66 (by decide) (fun hc => ?_) (fun hc => ?_)
  · have hF := oi_t hc hF
    exact wX0_countWrong_72 ad A C0 M hr hF (lv_sub hl [0, 1, 2, 3, 4] rfl) Kr Kh0
  · have hF := oi_f hc hF
    obtain ⟨v69, hv, hF⟩ := ob hF
    refine lv_iinc (v := v69) (lv' := [(3, .int v69), (0, .ref (ad x0)), (1, .ref (ad x1)), (2, .int x2), (4, .int x4)]) hx hb dX0_countWrong_69 hl (k := 3) rfl (by rw [← vtI hv]; rfl) (by decide) rfl (fun ls hl => ?_)
    exact wX0_countWrong_72 ad A C0 M hr hF (lv_sub hl [1, 2, 3, 0, 4] rfl) Kr Kh0
set_option maxHeartbeats 4000000 in
set_option maxRecDepth 100000 in
theorem wX0_countWrong_45 {p : Program} {l : Launch} {e : Env} {s : State} {m : MethodId} {args : Array Value} {below : List Frame} {meth : Method} {c : Code} {D : va_G} {cy : Nat → ClassId} (ad : Nat → Nat) (A : Nat → Prop) {S : MS} {r : Int32} {out : ((Nat × Nat × Int32 × Int32 × Int32) ⊕ Int32)} {ls : Array Slot} {x0 : Nat} {x1 : Nat} {x2 : Int32} {x3 : Int32} {x4 : Int32} {z0 : Int32} (C0 : CX p s m args meth c RX0 cX0_countWrong 5 D cy) (M : MW D cy ad A S s.heap) (hr : meth.sig.returnType = some .int) (hF : bX0_countWrong_45 S x0 x1 x2 x3 x4 z0 = some out) (hl : lv_has ls 5 [(0, .ref (ad x0)), (1, .ref (ad x1)), (2, .int x2), (3, .int x3), (4, .int x4)]) (Kr : ∀ r9, out = .inr r9 → r9 = r) (Kh0 : ∀ (y0 : Nat) (y1 : Nat) (y2 : Int32) (y3 : Int32) (y4 : Int32), out = .inl (y0, y1, y2, y3, y4) → ∀ (ls1 : Array Slot), lv_has ls1 5 [(0, .ref (ad y0)), (1, .ref (ad y1)), (2, .int y2), (3, .int y3), (4, .int y4)] → W p l e rmX0_countWrong s m args below meth c s.heap [] 0 0 (MQ below (QcS (some (.int r))) args s 0 0 (fun _ => False)) (F0 m 5 ls1 [])) : W p l e rmX0_countWrong s m args below meth c s.heap [] 0 0 (MQ below (QcS (some (.int r))) args s 0 0 (fun _ => False)) (F0 m 45 ls [.int z0]) := by
  unfold bX0_countWrong_45 at hF
  obtain ⟨hx, hb, -, hown, -, hts, -⟩ := id C0
  refine lv_aload_n hx hb dX0_countWrong_45 rfl (lv_at hl 0 rfl) ?_
  obtain ⟨v46, hv, hF⟩ := ob hF
  refine k_getP C0 M hv fl_X0_25 dX0_countWrong_46 ?_
  refine lv_aload_n hx hb dX0_countWrong_49 rfl (lv_at hl 1 rfl) ?_
  obtain ⟨v50, hv, hF⟩ := ob hF
  refine k_getP C0 M hv fl_X0_91 dX0_countWrong_50 ?_
  refine lv_iload hx hb dX0_countWrong_53 (lv_at hl 4 rfl) ?_
  obtain ⟨v55, hv, hF⟩ := ob hF
  refine k_ld C0 M hv dX0_countWrong_55 ?_
  obtain ⟨v56, hv, hF⟩ := ob hF
  refine k_ld C0 M hv dX0_countWrong_56 ?_
  refine lv_iload_n hx hb dX0_countWrong_57 rfl (lv_at hl 2 rfl) ?_
  refine lv_icmp_ge (tgt := 65) hx hb dX0_countWrong_58 (by decide) (fun hc => ?_) (fun hc => ?_)
  · have hF := oi_t hc hF
    refine lv_iconst (v := (0 : Int32)) hx hb dX0_countWrong_65 (by decide) ?_
    exact wX0_countWrong_66 ad A C0 M hr hF (lv_sub hl [0, 1, 2, 3, 4] rfl) Kr Kh0
  · have hF := oi_f hc hF
    refine lv_iconst (v := (1 : Int32)) hx hb dX0_countWrong_61 (by decide) ?_
    refine lv_goto (tgt := 66) hx hb dX0_countWrong_62 (by decide) ?_
    exact wX0_countWrong_66 ad A C0 M hr hF (lv_sub hl [0, 1, 2, 3, 4] rfl) Kr Kh0
set_option maxHeartbeats 4000000 in
set_option maxRecDepth 100000 in
theorem wX0_countWrong_5 {p : Program} {l : Launch} {e : Env} {s : State} {m : MethodId} {args : Array Value} {below : List Frame} {meth : Method} {c : Code} {D : va_G} {cy : Nat → ClassId} (ad : Nat → Nat) (A : Nat → Prop) {S : MS} {r : Int32} {out : ((Nat × Nat × Int32 × Int32 × Int32) ⊕ Int32)} {ls : Array Slot} {x0 : Nat} {x1 : Nat} {x2 : Int32} {x3 : Int32} {x4 : Int32} (C0 : CX p s m args meth c RX0 cX0_countWrong 5 D cy) (M : MW D cy ad A S s.heap) (hr : meth.sig.returnType = some .int) (hF : bX0_countWrong_5 S x0 x1 x2 x3 x4 = some out) (hl : lv_has ls 5 [(0, .ref (ad x0)), (1, .ref (ad x1)), (2, .int x2), (3, .int x3), (4, .int x4)]) (Kr : ∀ r9, out = .inr r9 → r9 = r) (Kh0 : ∀ (y0 : Nat) (y1 : Nat) (y2 : Int32) (y3 : Int32) (y4 : Int32), out = .inl (y0, y1, y2, y3, y4) → ∀ (ls1 : Array Slot), lv_has ls1 5 [(0, .ref (ad y0)), (1, .ref (ad y1)), (2, .int y2), (3, .int y3), (4, .int y4)] → W p l e rmX0_countWrong s m args below meth c s.heap [] 0 0 (MQ below (QcS (some (.int r))) args s 0 0 (fun _ => False)) (F0 m 5 ls1 [])) : W p l e rmX0_countWrong s m args below meth c s.heap [] 0 0 (MQ below (QcS (some (.int r))) args s 0 0 (fun _ => False)) (F0 m 5 ls []) := by
  unfold bX0_countWrong_5 at hF
  obtain ⟨hx, hb, -, hown, -, hts, -⟩ := id C0
  refine lv_iload hx hb dX0_countWrong_5 (lv_at hl 4 rfl) ?_
  refine lv_aload_n hx hb dX0_countWrong_7 rfl (lv_at hl 1 rfl) ?_
  obtain ⟨v8, hv, hF⟩ := ob hF
  refine k_getP C0 M hv fl_X0_44 dX0_countWrong_8 ?_
  obtain ⟨_, hrec, hF⟩ := ob hF
  obtain ⟨v11, hcl, hF⟩ := ob hF
  refine go_SI (r_V (rest := [.int x4]) (As := []) C0 cb_X0_50 M hrec (tJx4a65c_size_8abf5 l D cy ad A hcl) (pre_R C0 M) hl dX0_countWrong_11 rfl (Nat.le_of_ble_eq_true rfl) ⟨rfl, rfl⟩ ⟨Nat.le_of_ble_eq_true rfl, Nat.le_of_ble_eq_true rfl⟩ ⟨Nat.le_of_ble_eq_true rfl, Nat.le_of_ble_eq_true rfl⟩ rfl) ?_
  refine lv_icmp_ge (tgt := 78) hx hb dX0_countWrong_14 (by decide) (fun hc => ?_) (fun hc => ?_)
  · have hF := oi_t hc hF
    refine lv_iload_n hx hb dX0_countWrong_78 rfl (lv_at hl 3 rfl) ?_
    obtain rfl := (Kr _ (Option.some.inj hF).symm)
    exact rt_SI C0 hr dX0_countWrong_79
  · have hF := oi_f hc hF
    refine lv_aload_n hx hb dX0_countWrong_17 rfl (lv_at hl 1 rfl) ?_
    obtain ⟨v18, hv, hF⟩ := ob hF
    refine k_getI C0 M hv fl_X0_80 dX0_countWrong_18 ?_
    refine lv_iload hx hb dX0_countWrong_21 (lv_at hl 4 rfl) ?_
    obtain ⟨v23, hcl, hF⟩ := ob hF
    refine go_SI (r_SN (rest := []) (As := [.int v18, .int x4]) C0 cb_X0_87 (tX9_isIn l D cy ad hcl) (pre_S C0) hl dX0_countWrong_23 rfl (Nat.le_of_ble_eq_true rfl) ⟨rfl, rfl⟩ ⟨Nat.le_of_ble_eq_true rfl, Nat.le_of_ble_eq_true rfl⟩ ⟨Nat.le_of_ble_eq_true rfl, Nat.le_of_ble_eq_true rfl⟩ rfl) ?_
    refine lv_if_eq (tgt := 72) hx hb dX0_countWrong_26 (by decide) (fun hc => ?_) (fun hc => ?_)
    · have hF := oi_t hc hF
      exact wX0_countWrong_72 ad A C0 M hr hF (lv_sub hl [0, 1, 2, 3, 4] rfl) Kr Kh0
    · have hF := oi_f hc hF
      refine lv_aload_n hx hb dX0_countWrong_29 rfl (lv_at hl 0 rfl) ?_
      obtain ⟨v30, hv, hF⟩ := ob hF
      refine k_getP C0 M hv fl_X0_15 dX0_countWrong_30 ?_
      refine lv_iload hx hb dX0_countWrong_33 (lv_at hl 4 rfl) ?_
      obtain ⟨v35, hv, hF⟩ := ob hF
      refine k_ld C0 M hv dX0_countWrong_35 ?_
      refine lv_iload_n hx hb dX0_countWrong_36 rfl (lv_at hl 2 rfl) ?_
      refine lv_icmp_ge (tgt := 44) hx hb dX0_countWrong_37 (by decide) (fun hc => ?_) (fun hc => ?_)
      · have hF := oi_t hc hF
        refine lv_iconst (v := (0 : Int32)) hx hb dX0_countWrong_44 (by decide) ?_
        exact wX0_countWrong_45 ad A C0 M hr hF (lv_sub hl [0, 1, 2, 3, 4] rfl) Kr Kh0
      · have hF := oi_f hc hF
        refine lv_iconst (v := (1 : Int32)) hx hb dX0_countWrong_40 (by decide) ?_
        refine lv_goto (tgt := 45) hx hb dX0_countWrong_41 (by decide) ?_
        exact wX0_countWrong_45 ad A C0 M hr hF (lv_sub hl [0, 1, 2, 3, 4] rfl) Kr Kh0
set_option maxHeartbeats 4000000 in
set_option maxRecDepth 100000 in
theorem tX0_countWrong (l : Launch) (D : va_G) (cy : Nat → ClassId) (ad : Nat → Nat) (A : Nat → Prop) {S : MS} {a0 : Nat} {a1 : Nat} {a2 : Int32} {r : Int32} (h : fX0_countWrong S a0 a1 a2 = some r) : Met l yX0_countWrong [Cond.code yX0_countWrong cX0_countWrong 5 (some .int)] rmX0_countWrong (PcR D cy ad A S [.ref (ad a0), .ref (ad a1), .int a2]) (QcS (some (.int r))) 0 0 (fun _ => False) := by
  refine met_R (by decide +kernel) cw_X0_countWrong (Nat.le_of_ble_eq_true rfl) ?_
  intro p e s m args below meth c ls C0 M hr hl
  have hl : lv_has ls 5 [(0, .ref (ad a0)), (1, .ref (ad a1)), (2, .int a2)] := hl
  have key := lim_walk (step := sX0_countWrong S) (fun (q : (Nat × Nat × Int32 × Int32 × Int32)) (r9 : Int32) => ∀ (r : Int32), r9 = r → ((∀ (y0 : Nat) (y1 : Nat) (y2 : Int32) (y3 : Int32) (y4 : Int32), q = (y0, y1, y2, y3, y4) → ∀ (ls1 : Array Slot), lv_has ls1 5 [(0, .ref (ad y0)), (1, .ref (ad y1)), (2, .int y2), (3, .int y3), (4, .int y4)] → W p l e rmX0_countWrong s m args below meth c s.heap [] 0 0 (MQ below (QcS (some (.int r))) args s 0 0 (fun _ => False)) (F0 m 5 ls1 [])))) ?_
  · unfold fX0_countWrong at h
    cases hs0 : bX0_countWrong_0 S a0 a1 a2 with
    | none => rw [hs0] at h; cases h
    | some out =>
      rw [hs0] at h
      refine wX0_countWrong_0 ad A C0 M hr hs0 hl (fun r9 hr9 => ?_) ?_
      · subst hr9; exact Option.some.inj h
      · intro y0 y1 y2 y3 y4 hq; subst hq; exact (key _ _ h _ rfl) _ _ _ _ _ rfl
  · intro q r9 out hst hre hin9
    intro r er; subst er
    refine ?_
    · intro y0 y1 y2 y3 y4 hq ls1 hl
      subst hq
      exact wX0_countWrong_5 ad A C0 M hr hst hl hre (fun k0 k1 k2 k3 k4 hk => (hin9 _ hk _ rfl) _ _ _ _ _ rfl)
set_option maxHeartbeats 4000000 in
set_option maxRecDepth 100000 in
theorem wX0_lengthOfLine_0 {p : Program} {l : Launch} {e : Env} {s : State} {m : MethodId} {args : Array Value} {below : List Frame} {meth : Method} {c : Code} {D : va_G} {cy : Nat → ClassId} (ad : Nat → Nat) (A : Nat → Prop) {S : MS} {r : Int32} {out : ((Nat × Int32 × Int32 × Int32) ⊕ Int32)} {ls : Array Slot} {x0 : Nat} {x1 : Int32} (C0 : CX p s m args meth c RX0 cX0_lengthOfLine 5 D cy) (M : MW D cy ad A S s.heap) (hr : meth.sig.returnType = some .int) (hF : bX0_lengthOfLine_0 S x0 x1 = some out) (hl : lv_has ls 5 [(0, .ref (ad x0)), (1, .int x1)]) (Kr : ∀ r9, out = .inr r9 → r9 = r) (Kh0 : ∀ (y0 : Nat) (y1 : Int32) (y2 : Int32) (y3 : Int32), out = .inl (y0, y1, y2, y3) → ∀ (ls1 : Array Slot), lv_has ls1 5 [(0, .ref (ad y0)), (1, .int y1), (2, .int y2), (3, .int y3)] → W p l e rmX0_lengthOfLine s m args below meth c s.heap [] 0 0 (MQ below (QcS (some (.int r))) args s 0 0 (fun _ => False)) (F0 m 4 ls1 [])) : W p l e rmX0_lengthOfLine s m args below meth c s.heap [] 0 0 (MQ below (QcS (some (.int r))) args s 0 0 (fun _ => False)) (F0 m 0 ls []) := by
  unfold bX0_lengthOfLine_0 at hF
  obtain ⟨hx, hb, -, hown, -, hts, -⟩ := id C0
  refine lv_iconst (v := (0 : Int32)) hx hb dX0_lengthOfLine_0 (by decide) ?_
  refine lv_istore_n (lv' := [(2, .int (0 : Int32)), (0, .ref (ad x0)), (1, .int x1)]) hx hb dX0_lengthOfLine_1 rfl hl (by decide) rfl (fun ls hl => ?_)
  refine lv_iconst (v := (0 : Int32)) hx hb dX0_lengthOfLine_2 (by decide) ?_
  refine lv_istore_n (lv' := [(3, .int (0 : Int32)), (2, .int (0 : Int32)), (0, .ref (ad x0)), (1, .int x1)]) hx hb dX0_lengthOfLine_3 rfl hl (by decide) rfl (fun ls hl => ?_)
  exact Kh0 _ _ _ _ (Option.some.inj hF).symm _ (lv_sub hl [2, 3, 1, 0] rfl)
set_option maxHeartbeats 4000000 in
set_option maxRecDepth 100000 in
theorem wX0_lengthOfLine_97 {p : Program} {l : Launch} {e : Env} {s : State} {m : MethodId} {args : Array Value} {below : List Frame} {meth : Method} {c : Code} {D : va_G} {cy : Nat → ClassId} (ad : Nat → Nat) (A : Nat → Prop) {S : MS} {r : Int32} {out : ((Nat × Int32 × Int32 × Int32) ⊕ Int32)} {ls : Array Slot} {x0 : Nat} {x1 : Int32} {x2 : Int32} {x3 : Int32} (C0 : CX p s m args meth c RX0 cX0_lengthOfLine 5 D cy) (M : MW D cy ad A S s.heap) (hr : meth.sig.returnType = some .int) (hF : bX0_lengthOfLine_97 S x0 x1 x2 x3 = some out) (hl : lv_has ls 5 [(0, .ref (ad x0)), (1, .int x1), (2, .int x2), (3, .int x3)]) (Kr : ∀ r9, out = .inr r9 → r9 = r) (Kh0 : ∀ (y0 : Nat) (y1 : Int32) (y2 : Int32) (y3 : Int32), out = .inl (y0, y1, y2, y3) → ∀ (ls1 : Array Slot), lv_has ls1 5 [(0, .ref (ad y0)), (1, .int y1), (2, .int y2), (3, .int y3)] → W p l e rmX0_lengthOfLine s m args below meth c s.heap [] 0 0 (MQ below (QcS (some (.int r))) args s 0 0 (fun _ => False)) (F0 m 4 ls1 [])) : W p l e rmX0_lengthOfLine s m args below meth c s.heap [] 0 0 (MQ below (QcS (some (.int r))) args s 0 0 (fun _ => False)) (F0 m 97 ls []) := by
  unfold bX0_lengthOfLine_97 at hF
  obtain ⟨hx, hb, -, hown, -, hts, -⟩ := id C0
  obtain ⟨v97, hv, hF⟩ := ob hF
  refine lv_iinc (v := v97) (lv' := [(3, .int v97), (0, .ref (ad x0)), (1, .int x1), (2, .int x2)]) hx hb dX0_lengthOfLine_97 hl (k := 3) rfl (by rw [← vtI hv]; rfl) (by decide) rfl (fun ls hl => ?_)
  refine lv_goto (tgt := 4) hx hb dX0_lengthOfLine_100 (by decide) ?_
  exact Kh0 _ _ _ _ (Option.some.inj hF).symm _ (lv_sub hl [1, 2, 3, 0] rfl)
set_option maxHeartbeats 4000000 in
set_option maxRecDepth 100000 in
theorem wX0_lengthOfLine_89 {p : Program} {l : Launch} {e : Env} {s : State} {m : MethodId} {args : Array Value} {below : List Frame} {meth : Method} {c : Code} {D : va_G} {cy : Nat → ClassId} (ad : Nat → Nat) (A : Nat → Prop) {S : MS} {r : Int32} {out : ((Nat × Int32 × Int32 × Int32) ⊕ Int32)} {ls : Array Slot} {x0 : Nat} {x1 : Int32} {x2 : Int32} {x3 : Int32} {x4 : Int32} {z0 : Int32} (C0 : CX p s m args meth c RX0 cX0_lengthOfLine 5 D cy) (M : MW D cy ad A S s.heap) (hr : meth.sig.returnType = some .int) (hF : bX0_lengthOfLine_89 S x0 x1 x2 x3 x4 z0 = some out) (hl : lv_has ls 5 [(0, .ref (ad x0)), (1, .int x1), (2, .int x2), (3, .int x3), (4, .int x4)]) (Kr : ∀ r9, out = .inr r9 → r9 = r) (Kh0 : ∀ (y0 : Nat) (y1 : Int32) (y2 : Int32) (y3 : Int32), out = .inl (y0, y1, y2, y3) → ∀ (ls1 : Array Slot), lv_has ls1 5 [(0, .ref (ad y0)), (1, .int y1), (2, .int y2), (3, .int y3)] → W p l e rmX0_lengthOfLine s m args below meth c s.heap [] 0 0 (MQ below (QcS (some (.int r))) args s 0 0 (fun _ => False)) (F0 m 4 ls1 [])) : W p l e rmX0_lengthOfLine s m args below meth c s.heap [] 0 0 (MQ below (QcS (some (.int r))) args s 0 0 (fun _ => False)) (F0 m 89 ls [.int z0]) := by
  unfold bX0_lengthOfLine_89 at hF
  obtain ⟨hx, hb, -, hown, -, hts, -⟩ := id C0
  refine lv_iload hx hb dX0_lengthOfLine_89 (lv_at hl 4 rfl) ?_
  refine lv_icmp_eq (tgt := 97) hx hb dX0_lengthOfLine_91 (by decide) (fun hc => ?_) (fun hc => ?_)
  · have hF := oi_t hc hF
    exact wX0_lengthOfLine_97 ad A C0 M hr hF (lv_sub hl [0, 1, 2, 3] rfl) Kr Kh0
  · have hF := oi_f hc hF
    obtain ⟨v94, hv, hF⟩ := ob hF
    refine lv_iinc (v := v94) (lv' := [(2, .int v94), (0, .ref (ad x0)), (1, .int x1), (3, .int x3), (4, .int x4)]) hx hb dX0_lengthOfLine_94 hl (k := 2) rfl (by rw [← vtI hv]; rfl) (by decide) rfl (fun ls hl => ?_)
    exact wX0_lengthOfLine_97 ad A C0 M hr hF (lv_sub hl [1, 2, 0, 3] rfl) Kr Kh0
set_option maxHeartbeats 4000000 in
set_option maxRecDepth 100000 in
theorem wX0_lengthOfLine_62 {p : Program} {l : Launch} {e : Env} {s : State} {m : MethodId} {args : Array Value} {below : List Frame} {meth : Method} {c : Code} {D : va_G} {cy : Nat → ClassId} (ad : Nat → Nat) (A : Nat → Prop) {S : MS} {r : Int32} {out : ((Nat × Int32 × Int32 × Int32) ⊕ Int32)} {ls : Array Slot} {x0 : Nat} {x1 : Int32} {x2 : Int32} {x3 : Int32} {x4 : Int32} (C0 : CX p s m args meth c RX0 cX0_lengthOfLine 5 D cy) (M : MW D cy ad A S s.heap) (hr : meth.sig.returnType = some .int) (hF : bX0_lengthOfLine_62 S x0 x1 x2 x3 x4 = some out) (hl : lv_has ls 5 [(0, .ref (ad x0)), (1, .int x1), (2, .int x2), (3, .int x3), (4, .int x4)]) (Kr : ∀ r9, out = .inr r9 → r9 = r) (Kh0 : ∀ (y0 : Nat) (y1 : Int32) (y2 : Int32) (y3 : Int32), out = .inl (y0, y1, y2, y3) → ∀ (ls1 : Array Slot), lv_has ls1 5 [(0, .ref (ad y0)), (1, .int y1), (2, .int y2), (3, .int y3)] → W p l e rmX0_lengthOfLine s m args below meth c s.heap [] 0 0 (MQ below (QcS (some (.int r))) args s 0 0 (fun _ => False)) (F0 m 4 ls1 [])) : W p l e rmX0_lengthOfLine s m args below meth c s.heap [] 0 0 (MQ below (QcS (some (.int r))) args s 0 0 (fun _ => False)) (F0 m 62 ls []) := by
  unfold bX0_lengthOfLine_62 at hF
  obtain ⟨hx, hb, -, hown, -, hts, -⟩ := id C0
  refine lv_iload_n hx hb dX0_lengthOfLine_62 rfl (lv_at hl 3 rfl) ?_
  refine lv_bipush (v := (12 : Int32)) hx hb dX0_lengthOfLine_63 (by decide) ?_
  refine lv_idiv hx hb dX0_lengthOfLine_65 (by decide) ?_
  refine lv_bipush (v := (11 : Int32)) hx hb dX0_lengthOfLine_66 (by decide) ?_
  refine lv_icmp_ge (tgt := 97) hx hb dX0_lengthOfLine_68 (by decide) (fun hc => ?_) (fun hc => ?_)
  · have hF := oi_t hc hF
    exact wX0_lengthOfLine_97 ad A C0 M hr hF (lv_sub hl [0, 1, 2, 3] rfl) Kr Kh0
  · have hF := oi_f hc hF
    refine lv_aload_n hx hb dX0_lengthOfLine_71 rfl (lv_at hl 0 rfl) ?_
    obtain ⟨v72, hv, hF⟩ := ob hF
    refine k_getP C0 M hv fl_X0_25 dX0_lengthOfLine_72 ?_
    refine lv_iload_n hx hb dX0_lengthOfLine_75 rfl (lv_at hl 3 rfl) ?_
    refine lv_bipush (v := (12 : Int32)) hx hb dX0_lengthOfLine_76 (by decide) ?_
    refine lv_iadd hx hb dX0_lengthOfLine_78 ?_
    obtain ⟨v79, hv, hF⟩ := ob hF
    refine k_ld C0 M hv dX0_lengthOfLine_79 ?_
    refine lv_iload_n hx hb dX0_lengthOfLine_80 rfl (lv_at hl 1 rfl) ?_
    refine lv_icmp_ge (tgt := 88) hx hb dX0_lengthOfLine_81 (by decide) (fun hc => ?_) (fun hc => ?_)
    · have hF := oi_t hc hF
      refine lv_iconst (v := (0 : Int32)) hx hb dX0_lengthOfLine_88 (by decide) ?_
      exact wX0_lengthOfLine_89 ad A C0 M hr hF (lv_sub hl [0, 1, 2, 3, 4] rfl) Kr Kh0
    · have hF := oi_f hc hF
      refine lv_iconst (v := (1 : Int32)) hx hb dX0_lengthOfLine_84 (by decide) ?_
      refine lv_goto (tgt := 89) hx hb dX0_lengthOfLine_85 (by decide) ?_
      exact wX0_lengthOfLine_89 ad A C0 M hr hF (lv_sub hl [0, 1, 2, 3, 4] rfl) Kr Kh0
set_option maxHeartbeats 4000000 in
set_option maxRecDepth 100000 in
theorem wX0_lengthOfLine_54 {p : Program} {l : Launch} {e : Env} {s : State} {m : MethodId} {args : Array Value} {below : List Frame} {meth : Method} {c : Code} {D : va_G} {cy : Nat → ClassId} (ad : Nat → Nat) (A : Nat → Prop) {S : MS} {r : Int32} {out : ((Nat × Int32 × Int32 × Int32) ⊕ Int32)} {ls : Array Slot} {x0 : Nat} {x1 : Int32} {x2 : Int32} {x3 : Int32} {x4 : Int32} {z0 : Int32} (C0 : CX p s m args meth c RX0 cX0_lengthOfLine 5 D cy) (M : MW D cy ad A S s.heap) (hr : meth.sig.returnType = some .int) (hF : bX0_lengthOfLine_54 S x0 x1 x2 x3 x4 z0 = some out) (hl : lv_has ls 5 [(0, .ref (ad x0)), (1, .int x1), (2, .int x2), (3, .int x3), (4, .int x4)]) (Kr : ∀ r9, out = .inr r9 → r9 = r) (Kh0 : ∀ (y0 : Nat) (y1 : Int32) (y2 : Int32) (y3 : Int32), out = .inl (y0, y1, y2, y3) → ∀ (ls1 : Array Slot), lv_has ls1 5 [(0, .ref (ad y0)), (1, .int y1), (2, .int y2), (3, .int y3)] → W p l e rmX0_lengthOfLine s m args below meth c s.heap [] 0 0 (MQ below (QcS (some (.int r))) args s 0 0 (fun _ => False)) (F0 m 4 ls1 [])) : W p l e rmX0_lengthOfLine s m args below meth c s.heap [] 0 0 (MQ below (QcS (some (.int r))) args s 0 0 (fun _ => False)) (F0 m 54 ls [.int z0]) := by
  unfold bX0_lengthOfLine_54 at hF
  obtain ⟨hx, hb, -, hown, -, hts, -⟩ := id C0
  refine lv_iload hx hb dX0_lengthOfLine_54 (lv_at hl 4 rfl) ?_
  refine lv_icmp_eq (tgt := 62) hx hb dX0_lengthOfLine_56 (by decide) (fun hc => ?_) (fun hc => ?_)
  · have hF := oi_t hc hF
    exact wX0_lengthOfLine_62 ad A C0 M hr hF (lv_sub hl [0, 1, 2, 3, 4] rfl) Kr Kh0
  · have hF := oi_f hc hF
    obtain ⟨v59, hv, hF⟩ := ob hF
    refine lv_iinc (v := v59) (lv' := [(2, .int v59), (0, .ref (ad x0)), (1, .int x1), (3, .int x3), (4, .int x4)]) hx hb dX0_lengthOfLine_59 hl (k := 2) rfl (by rw [← vtI hv]; rfl) (by decide) rfl (fun ls hl => ?_)
    exact wX0_lengthOfLine_62 ad A C0 M hr hF (lv_sub hl [1, 2, 0, 3, 4] rfl) Kr Kh0
set_option maxHeartbeats 4000000 in
set_option maxRecDepth 100000 in
theorem wX0_lengthOfLine_26 {p : Program} {l : Launch} {e : Env} {s : State} {m : MethodId} {args : Array Value} {below : List Frame} {meth : Method} {c : Code} {D : va_G} {cy : Nat → ClassId} (ad : Nat → Nat) (A : Nat → Prop) {S : MS} {r : Int32} {out : ((Nat × Int32 × Int32 × Int32) ⊕ Int32)} {ls : Array Slot} {x0 : Nat} {x1 : Int32} {x2 : Int32} {x3 : Int32} {z0 : Int32} (C0 : CX p s m args meth c RX0 cX0_lengthOfLine 5 D cy) (M : MW D cy ad A S s.heap) (hr : meth.sig.returnType = some .int) (hF : bX0_lengthOfLine_26 S x0 x1 x2 x3 z0 = some out) (hl : lv_has ls 5 [(0, .ref (ad x0)), (1, .int x1), (2, .int x2), (3, .int x3)]) (Kr : ∀ r9, out = .inr r9 → r9 = r) (Kh0 : ∀ (y0 : Nat) (y1 : Int32) (y2 : Int32) (y3 : Int32), out = .inl (y0, y1, y2, y3) → ∀ (ls1 : Array Slot), lv_has ls1 5 [(0, .ref (ad y0)), (1, .int y1), (2, .int y2), (3, .int y3)] → W p l e rmX0_lengthOfLine s m args below meth c s.heap [] 0 0 (MQ below (QcS (some (.int r))) args s 0 0 (fun _ => False)) (F0 m 4 ls1 [])) : W p l e rmX0_lengthOfLine s m args below meth c s.heap [] 0 0 (MQ below (QcS (some (.int r))) args s 0 0 (fun _ => False)) (F0 m 26 ls [.int z0]) := by
  unfold bX0_lengthOfLine_26 at hF
  obtain ⟨hx, hb, -, hown, -, hts, -⟩ := id C0
  refine lv_istore (lv' := [(4, .int z0), (0, .ref (ad x0)), (1, .int x1), (2, .int x2), (3, .int x3)]) hx hb dX0_lengthOfLine_26 hl (by decide) rfl (fun ls hl => ?_)
  refine lv_iload_n hx hb dX0_lengthOfLine_28 rfl (lv_at hl 4 rfl) ?_
  refine lv_bipush (v := (12 : Int32)) hx hb dX0_lengthOfLine_29 (by decide) ?_
  refine lv_irem hx hb dX0_lengthOfLine_31 (by decide) ?_
  refine lv_bipush (v := (11 : Int32)) hx hb dX0_lengthOfLine_32 (by decide) ?_
  refine lv_icmp_ge (tgt := 62) hx hb dX0_lengthOfLine_34 (by decide) (fun hc => ?_) (fun hc => ?_)
  · have hF := oi_t hc hF
    exact wX0_lengthOfLine_62 ad A C0 M hr hF (lv_sub hl [1, 2, 3, 4, 0] rfl) Kr Kh0
  · have hF := oi_f hc hF
    refine lv_aload_n hx hb dX0_lengthOfLine_37 rfl (lv_at hl 1 rfl) ?_
    obtain ⟨v38, hv, hF⟩ := ob hF
    refine k_getP C0 M hv fl_X0_25 dX0_lengthOfLine_38 ?_
    refine lv_iload_n hx hb dX0_lengthOfLine_41 rfl (lv_at hl 4 rfl) ?_
    refine lv_iconst (v := (1 : Int32)) hx hb dX0_lengthOfLine_42 (by decide) ?_
    refine lv_iadd hx hb dX0_lengthOfLine_43 ?_
    obtain ⟨v44, hv, hF⟩ := ob hF
    refine k_ld C0 M hv dX0_lengthOfLine_44 ?_
    refine lv_iload_n hx hb dX0_lengthOfLine_45 rfl (lv_at hl 2 rfl) ?_
    refine lv_icmp_ge (tgt := 53) hx hb dX0_lengthOfLine_46 (by decide) (fun hc => ?_) (fun hc => ?_)
    · have hF := oi_t hc hF
      refine lv_iconst (v := (0 : Int32)) hx hb dX0_lengthOfLine_53 (by decide) ?_
      exact wX0_lengthOfLine_54 ad A C0 M hr hF (lv_sub hl [1, 2, 3, 4, 0] rfl) Kr Kh0
    · have hF := oi_f hc hF
      refine lv_iconst (v := (1 : Int32)) hx hb dX0_lengthOfLine_49 (by decide) ?_
      refine lv_goto (tgt := 54) hx hb dX0_lengthOfLine_50 (by decide) ?_
      exact wX0_lengthOfLine_54 ad A C0 M hr hF (lv_sub hl [1, 2, 3, 4, 0] rfl) Kr Kh0
set_option maxHeartbeats 4000000 in
set_option maxRecDepth 100000 in
theorem wX0_lengthOfLine_4 {p : Program} {l : Launch} {e : Env} {s : State} {m : MethodId} {args : Array Value} {below : List Frame} {meth : Method} {c : Code} {D : va_G} {cy : Nat → ClassId} (ad : Nat → Nat) (A : Nat → Prop) {S : MS} {r : Int32} {out : ((Nat × Int32 × Int32 × Int32) ⊕ Int32)} {ls : Array Slot} {x0 : Nat} {x1 : Int32} {x2 : Int32} {x3 : Int32} (C0 : CX p s m args meth c RX0 cX0_lengthOfLine 5 D cy) (M : MW D cy ad A S s.heap) (hr : meth.sig.returnType = some .int) (hF : bX0_lengthOfLine_4 S x0 x1 x2 x3 = some out) (hl : lv_has ls 5 [(0, .ref (ad x0)), (1, .int x1), (2, .int x2), (3, .int x3)]) (Kr : ∀ r9, out = .inr r9 → r9 = r) (Kh0 : ∀ (y0 : Nat) (y1 : Int32) (y2 : Int32) (y3 : Int32), out = .inl (y0, y1, y2, y3) → ∀ (ls1 : Array Slot), lv_has ls1 5 [(0, .ref (ad y0)), (1, .int y1), (2, .int y2), (3, .int y3)] → W p l e rmX0_lengthOfLine s m args below meth c s.heap [] 0 0 (MQ below (QcS (some (.int r))) args s 0 0 (fun _ => False)) (F0 m 4 ls1 [])) : W p l e rmX0_lengthOfLine s m args below meth c s.heap [] 0 0 (MQ below (QcS (some (.int r))) args s 0 0 (fun _ => False)) (F0 m 4 ls []) := by
  unfold bX0_lengthOfLine_4 at hF
  obtain ⟨hx, hb, -, hown, -, hts, -⟩ := id C0
  refine lv_iload_n hx hb dX0_lengthOfLine_4 rfl (lv_at hl 3 rfl) ?_
  refine lv_sipush (v := (144 : Int32)) hx hb dX0_lengthOfLine_5 (by decide) ?_
  refine lv_icmp_ge (tgt := 103) hx hb dX0_lengthOfLine_8 (by decide) (fun hc => ?_) (fun hc => ?_)
  · have hF := oi_t hc hF
    refine lv_iload_n hx hb dX0_lengthOfLine_103 rfl (lv_at hl 2 rfl) ?_
    obtain rfl := (Kr _ (Option.some.inj hF).symm)
    exact rt_SI C0 hr dX0_lengthOfLine_104
  · have hF := oi_f hc hF
    refine lv_aload_n hx hb dX0_lengthOfLine_11 rfl (lv_at hl 0 rfl) ?_
    obtain ⟨v12, hv, hF⟩ := ob hF
    refine k_getP C0 M hv fl_X0_25 dX0_lengthOfLine_12 ?_
    refine lv_iload_n hx hb dX0_lengthOfLine_15 rfl (lv_at hl 3 rfl) ?_
    obtain ⟨v16, hv, hF⟩ := ob hF
    refine k_ld C0 M hv dX0_lengthOfLine_16 ?_
    refine lv_iload_n hx hb dX0_lengthOfLine_17 rfl (lv_at hl 1 rfl) ?_
    refine lv_icmp_ge (tgt := 25) hx hb dX0_lengthOfLine_18 (by decide) (fun hc => ?_) (fun hc => ?_)
    · have hF := oi_t hc hF
      refine lv_iconst (v := (0 : Int32)) hx hb dX0_lengthOfLine_25 (by decide) ?_
      exact wX0_lengthOfLine_26 ad A C0 M hr hF (lv_sub hl [0, 1, 2, 3] rfl) Kr Kh0
    · have hF := oi_f hc hF
      refine lv_iconst (v := (1 : Int32)) hx hb dX0_lengthOfLine_21 (by decide) ?_
      refine lv_goto (tgt := 26) hx hb dX0_lengthOfLine_22 (by decide) ?_
      exact wX0_lengthOfLine_26 ad A C0 M hr hF (lv_sub hl [0, 1, 2, 3] rfl) Kr Kh0
set_option maxHeartbeats 4000000 in
set_option maxRecDepth 100000 in
theorem tX0_lengthOfLine (l : Launch) (D : va_G) (cy : Nat → ClassId) (ad : Nat → Nat) (A : Nat → Prop) {S : MS} {a0 : Nat} {a1 : Int32} {r : Int32} (h : fX0_lengthOfLine S a0 a1 = some r) : Met l yX0_lengthOfLine [Cond.code yX0_lengthOfLine cX0_lengthOfLine 5 (some .int)] rmX0_lengthOfLine (PcR D cy ad A S [.ref (ad a0), .int a1]) (QcS (some (.int r))) 0 0 (fun _ => False) := by
  refine met_R (by decide +kernel) cw_X0_lengthOfLine (Nat.le_of_ble_eq_true rfl) ?_
  intro p e s m args below meth c ls C0 M hr hl
  have hl : lv_has ls 5 [(0, .ref (ad a0)), (1, .int a1)] := hl
  have key := lim_walk (step := sX0_lengthOfLine S) (fun (q : (Nat × Int32 × Int32 × Int32)) (r9 : Int32) => ∀ (r : Int32), r9 = r → ((∀ (y0 : Nat) (y1 : Int32) (y2 : Int32) (y3 : Int32), q = (y0, y1, y2, y3) → ∀ (ls1 : Array Slot), lv_has ls1 5 [(0, .ref (ad y0)), (1, .int y1), (2, .int y2), (3, .int y3)] → W p l e rmX0_lengthOfLine s m args below meth c s.heap [] 0 0 (MQ below (QcS (some (.int r))) args s 0 0 (fun _ => False)) (F0 m 4 ls1 [])))) ?_
  · unfold fX0_lengthOfLine at h
    cases hs0 : bX0_lengthOfLine_0 S a0 a1 with
    | none => rw [hs0] at h; cases h
    | some out =>
      rw [hs0] at h
      refine wX0_lengthOfLine_0 ad A C0 M hr hs0 hl (fun r9 hr9 => ?_) ?_
      · subst hr9; exact Option.some.inj h
      · intro y0 y1 y2 y3 hq; subst hq; exact (key _ _ h _ rfl) _ _ _ _ rfl
  · intro q r9 out hst hre hin9
    intro r er; subst er
    refine ?_
    · intro y0 y1 y2 y3 hq ls1 hl
      subst hq
      exact wX0_lengthOfLine_4 ad A C0 M hr hst hl hre (fun k0 k1 k2 k3 hk => (hin9 _ hk _ rfl) _ _ _ _ rfl)
set_option maxHeartbeats 4000000 in
set_option maxRecDepth 100000 in
theorem wX9_line_20 {p : Program} {l : Launch} {e : Env} {s : State} {m : MethodId} {args : Array Value} {below : List Frame} {meth : Method} {c : Code} {D : va_G} {cy : Nat → ClassId} (ad : Nat → Nat) (A : Nat → Prop) {S : MS} {S' : MS} {H : Heap} {locs : List Loc} {n0 : Nat} {r : Int32} {ls : Array Slot} (C0 : CX p s m args meth c RX9 cX9_line 4 D cy) (M : ST D cy ad A s.heap (ZN n0 s.heap.size) S H locs) (hr : meth.sig.returnType = some .int) (hF : bX9_line_20 S = some (r, S')) (hl : lv_has ls 4 []) : W p l e rmX9_line s m args below meth c H locs 0 0 (MQ below (QcM D cy ad A n0 S' (some (.int r))) args s 0 0 A) (F0 m 20 ls []) := by
  unfold bX9_line_20 at hF
  obtain ⟨hx, hb, -, hown, -, hts, -⟩ := id C0
  refine lv_bipush (v := (-2 : Int32)) hx hb dX9_line_20 (by decide) ?_
  obtain ⟨rfl, rfl⟩ := Prod.mk.inj (Option.some.inj hF)
  exact rt_MI C0 M hr dX9_line_22
set_option maxHeartbeats 4000000 in
set_option maxRecDepth 100000 in
theorem wX9_line_0 {p : Program} {l : Launch} {e : Env} {s : State} {m : MethodId} {args : Array Value} {below : List Frame} {meth : Method} {c : Code} {D : va_G} {cy : Nat → ClassId} (ad : Nat → Nat) (A : Nat → Prop) {S : MS} {S' : MS} {H : Heap} {locs : List Loc} {n0 : Nat} {r : Int32} {ls : Array Slot} {x0 : Nat} {x1 : Int32} {x2 : Int32} (C0 : CX p s m args meth c RX9 cX9_line 4 D cy) (M : ST D cy ad A s.heap (ZN n0 s.heap.size) S H locs) (hr : meth.sig.returnType = some .int) (hF : bX9_line_0 S x0 x1 x2 = some (r, S')) (hl : lv_has ls 4 [(0, .ref (ad x0)), (1, .int x1), (2, .int x2)]) : W p l e rmX9_line s m args below meth c H locs 0 0 (MQ below (QcM D cy ad A n0 S' (some (.int r))) args s 0 0 A) (F0 m 0 ls []) := by
  unfold bX9_line_0 at hF
  obtain ⟨hx, hb, -, hown, -, hts, -⟩ := id C0
  refine lv_iload_n hx hb dX9_line_0 rfl (lv_at hl 1 rfl) ?_
  refine lv_iconst (v := (0 : Int32)) hx hb dX9_line_1 (by decide) ?_
  refine lv_sipush (v := (20000 : Int32)) hx hb dX9_line_2 (by decide) ?_
  obtain ⟨v5, hcl, hF⟩ := ob hF
  refine go_SI (r_S (rest := []) (As := [.int x1, .int (0 : Int32), .int (20000 : Int32)]) C0 cb_X9_86 (tX9_isWithin l D cy ad hcl) (pre_S C0) hl dX9_line_5 rfl (Nat.le_of_ble_eq_true rfl) ⟨rfl, rfl⟩ ⟨Nat.le_of_ble_eq_true rfl, Nat.le_of_ble_eq_true rfl⟩ ⟨Nat.le_of_ble_eq_true rfl, Nat.le_of_ble_eq_true rfl⟩ rfl) ?_
  refine lv_if_eq (tgt := 20) hx hb dX9_line_8 (by decide) (fun hc => ?_) (fun hc => ?_)
  · have hF := oi_t hc hF
    exact wX9_line_20 ad A C0 M hr hF (lv_sub hl [] rfl)
  · have hF := oi_f hc hF
    refine lv_iload_n hx hb dX9_line_11 rfl (lv_at hl 2 rfl) ?_
    refine lv_iconst (v := (0 : Int32)) hx hb dX9_line_12 (by decide) ?_
    refine lv_iconst (v := (4 : Int32)) hx hb dX9_line_13 (by decide) ?_
    obtain ⟨v14, hcl, hF⟩ := ob hF
    refine go_SI (r_S (rest := []) (As := [.int x2, .int (0 : Int32), .int (4 : Int32)]) C0 cb_X9_86 (tX9_isWithin l D cy ad hcl) (pre_S C0) hl dX9_line_14 rfl (Nat.le_of_ble_eq_true rfl) ⟨rfl, rfl⟩ ⟨Nat.le_of_ble_eq_true rfl, Nat.le_of_ble_eq_true rfl⟩ ⟨Nat.le_of_ble_eq_true rfl, Nat.le_of_ble_eq_true rfl⟩ rfl) ?_
    refine lv_if_ne (tgt := 23) hx hb dX9_line_17 (by decide) (fun hc => ?_) (fun hc => ?_)
    · have hF := oi_f hc hF
      refine lv_aload_n hx hb dX9_line_23 rfl (lv_at hl 0 rfl) ?_
      obtain ⟨_, hrec, hF⟩ := ob hF
      obtain ⟨v24, S24, hcl, hF⟩ := ob2 hF
      refine go_MP (r_V (rest := []) (As := []) C0 cb_X9_137 M.1 hrec (tX9_settledChart l D cy ad A hcl) (pre_R C0 M.1) hl dX9_line_24 rfl (Nat.le_of_ble_eq_true rfl) ⟨rfl, rfl⟩ ⟨Nat.le_of_ble_eq_true rfl, Nat.le_of_ble_eq_true rfl⟩ ⟨Nat.le_of_ble_eq_true rfl, Nat.le_of_ble_eq_true rfl⟩ rfl) M (fun H locs M => ?_)
      refine lv_astore_n (lv' := [(3, .ref (ad v24)), (0, .ref (ad x0)), (1, .int x1), (2, .int x2)]) hx hb dX9_line_27 rfl hl (by decide) rfl (fun ls hl => ?_)
      refine lv_aload_n hx hb dX9_line_28 rfl (lv_at hl 0 rfl) ?_
      obtain ⟨_, hrec, hF⟩ := ob hF
      obtain ⟨v29, hcl, hF⟩ := ob hF
      refine go_SI (r_V (rest := []) (As := []) C0 cb_X9_235 M.1 hrec (tX0_countValues l D cy ad A hcl) (pre_R C0 M.1) hl dX9_line_29 rfl (Nat.le_of_ble_eq_true rfl) ⟨rfl, rfl⟩ ⟨Nat.le_of_ble_eq_true rfl, Nat.le_of_ble_eq_true rfl⟩ ⟨Nat.le_of_ble_eq_true rfl, Nat.le_of_ble_eq_true rfl⟩ rfl) ?_
      refine lv_if_ne (tgt := 38) hx hb dX9_line_32 (by decide) (fun hc => ?_) (fun hc => ?_)
      · have hF := oi_f hc hF
        refine lv_iload_n hx hb dX9_line_38 rfl (lv_at hl 3 rfl) ?_
        by_cases hc0 : x2 = (0 : Int32)
        · have hF := oi_t hc0 hF
          refine lv_tableIn (tgt := 68) (off := 29) hx hb dX9_line_39 (by rw [hc0]; decide) (by rw [hc0]; decide) (by rw [hc0]; rfl) (by decide) ?_
          refine lv_aload_n hx hb dX9_line_68 rfl (lv_at hl 0 rfl) ?_
          refine lv_iload_n hx hb dX9_line_69 rfl (lv_at hl 2 rfl) ?_
          obtain ⟨_, hrec, hF⟩ := ob hF
          obtain ⟨v70, hcl, hF⟩ := ob hF
          refine go_SI (r_V (rest := []) (As := [.int x1]) C0 cb_X9_238 M.1 hrec (tX0_lengthOfLine l D cy ad A hcl) (pre_R C0 M.1) hl dX9_line_70 rfl (Nat.le_of_ble_eq_true rfl) ⟨rfl, rfl⟩ ⟨Nat.le_of_ble_eq_true rfl, Nat.le_of_ble_eq_true rfl⟩ ⟨Nat.le_of_ble_eq_true rfl, Nat.le_of_ble_eq_true rfl⟩ rfl) ?_
          obtain ⟨rfl, rfl⟩ := Prod.mk.inj (Option.some.inj hF)
          exact rt_MI C0 M hr dX9_line_73
        have hF := oi_f hc0 hF
        by_cases hc1 : x2 = (1 : Int32)
        · have hF := oi_t hc1 hF
          refine lv_tableIn (tgt := 74) (off := 35) hx hb dX9_line_39 (by rw [hc1]; decide) (by rw [hc1]; decide) (by rw [hc1]; rfl) (by decide) ?_
          refine lv_aload_n hx hb dX9_line_74 rfl (lv_at hl 0 rfl) ?_
          refine lv_iload_n hx hb dX9_line_75 rfl (lv_at hl 2 rfl) ?_
          refine lv_iconst (v := (1 : Int32)) hx hb dX9_line_76 (by decide) ?_
          obtain ⟨_, hrec, hF⟩ := ob hF
          obtain ⟨v77, S77, hcl, hF⟩ := ob2 hF
          refine go_MI (r_V (rest := []) (As := [.int x1, .int (1 : Int32)]) C0 cb_X9_241 M.1 hrec (tX0_countPieces l D cy ad A hcl) (pre_R C0 M.1) hl dX9_line_77 rfl (Nat.le_of_ble_eq_true rfl) ⟨rfl, rfl⟩ ⟨Nat.le_of_ble_eq_true rfl, Nat.le_of_ble_eq_true rfl⟩ ⟨Nat.le_of_ble_eq_true rfl, Nat.le_of_ble_eq_true rfl⟩ rfl) M (fun H locs M => ?_)
          obtain ⟨rfl, rfl⟩ := Prod.mk.inj (Option.some.inj hF)
          exact rt_MI C0 M hr dX9_line_80
        have hF := oi_f hc1 hF
        by_cases hc2 : x2 = (2 : Int32)
        · have hF := oi_t hc2 hF
          refine lv_tableIn (tgt := 81) (off := 42) hx hb dX9_line_39 (by rw [hc2]; decide) (by rw [hc2]; decide) (by rw [hc2]; rfl) (by decide) ?_
          refine lv_aload_n hx hb dX9_line_81 rfl (lv_at hl 0 rfl) ?_
          refine lv_iload_n hx hb dX9_line_82 rfl (lv_at hl 2 rfl) ?_
          refine lv_iconst (v := (0 : Int32)) hx hb dX9_line_83 (by decide) ?_
          obtain ⟨_, hrec, hF⟩ := ob hF
          obtain ⟨v84, S84, hcl, hF⟩ := ob2 hF
          refine go_MI (r_V (rest := []) (As := [.int x1, .int (0 : Int32)]) C0 cb_X9_241 M.1 hrec (tX0_countPieces l D cy ad A hcl) (pre_R C0 M.1) hl dX9_line_84 rfl (Nat.le_of_ble_eq_true rfl) ⟨rfl, rfl⟩ ⟨Nat.le_of_ble_eq_true rfl, Nat.le_of_ble_eq_true rfl⟩ ⟨Nat.le_of_ble_eq_true rfl, Nat.le_of_ble_eq_true rfl⟩ rfl) M (fun H locs M => ?_)
          obtain ⟨rfl, rfl⟩ := Prod.mk.inj (Option.some.inj hF)
          exact rt_MI C0 M hr dX9_line_87
        have hF := oi_f hc2 hF
        by_cases hc3 : x2 = (3 : Int32)
        · have hF := oi_t hc3 hF
          refine lv_tableIn (tgt := 88) (off := 49) hx hb dX9_line_39 (by rw [hc3]; decide) (by rw [hc3]; decide) (by rw [hc3]; rfl) (by decide) ?_
          refine lv_aload_n hx hb dX9_line_88 rfl (lv_at hl 0 rfl) ?_
          refine lv_iload_n hx hb dX9_line_89 rfl (lv_at hl 2 rfl) ?_
          obtain ⟨_, hrec, hF⟩ := ob hF
          obtain ⟨v90, hcl, hF⟩ := ob hF
          refine go_SI (r_V (rest := []) (As := [.int x1]) C0 cb_X9_245 M.1 hrec (tX0_countBelow l D cy ad A hcl) (pre_R C0 M.1) hl dX9_line_90 rfl (Nat.le_of_ble_eq_true rfl) ⟨rfl, rfl⟩ ⟨Nat.le_of_ble_eq_true rfl, Nat.le_of_ble_eq_true rfl⟩ ⟨Nat.le_of_ble_eq_true rfl, Nat.le_of_ble_eq_true rfl⟩ rfl) ?_
          obtain ⟨rfl, rfl⟩ := Prod.mk.inj (Option.some.inj hF)
          exact rt_MI C0 M hr dX9_line_93
        have hF := oi_f hc3 hF
        refine lv_tableOut (tgt := 94) hx hb dX9_line_39 (tsw (x := x2) (n := 4) (by decide) (fun k hk => by rcases (show k = 0 ∨ k = 1 ∨ k = 2 ∨ k = 3 by omega) with rfl | rfl | rfl | rfl <;> first | exact hc0 | exact hc1 | exact hc2 | exact hc3)) (by decide) ?_
        refine lv_aload_n hx hb dX9_line_94 rfl (lv_at hl 0 rfl) ?_
        refine lv_aload_n hx hb dX9_line_95 rfl (lv_at hl 1 rfl) ?_
        obtain ⟨v96, hv, hF⟩ := ob hF
        refine k_getP C0 M.1 hv fl_X9_12 dX9_line_96 ?_
        refine lv_iload_n hx hb dX9_line_99 rfl (lv_at hl 2 rfl) ?_
        obtain ⟨_, hrec, hF⟩ := ob hF
        obtain ⟨v100, hcl, hF⟩ := ob hF
        refine go_SI (r_V (rest := []) (As := [.ref (ad v96), .int x1]) C0 cb_X9_248 M.1 hrec (tX0_countWrong l D cy ad A hcl) (pre_R C0 M.1) hl dX9_line_100 rfl (Nat.le_of_ble_eq_true rfl) ⟨rfl, rfl⟩ ⟨Nat.le_of_ble_eq_true rfl, Nat.le_of_ble_eq_true rfl⟩ ⟨Nat.le_of_ble_eq_true rfl, Nat.le_of_ble_eq_true rfl⟩ rfl) ?_
        obtain ⟨rfl, rfl⟩ := Prod.mk.inj (Option.some.inj hF)
        exact rt_MI C0 M hr dX9_line_103
      · have hF := oi_t hc hF
        refine lv_bipush (v := (-3 : Int32)) hx hb dX9_line_35 (by decide) ?_
        obtain ⟨rfl, rfl⟩ := Prod.mk.inj (Option.some.inj hF)
        exact rt_MI C0 M hr dX9_line_37
    · have hF := oi_t hc hF
      exact wX9_line_20 ad A C0 M hr hF (lv_sub hl [] rfl)
set_option maxHeartbeats 4000000 in
set_option maxRecDepth 100000 in
theorem tX9_line (l : Launch) (D : va_G) (cy : Nat → ClassId) (ad : Nat → Nat) (A : Nat → Prop) {S S' : MS} {a0 : Nat} {a1 : Int32} {a2 : Int32} {r : Int32} (h : fX9_line S a0 a1 a2 = some (r, S')) : Met l yX9_line [Cond.code yX9_line cX9_line 4 (some .int)] rmX9_line (PcR D cy ad A S [.ref (ad a0), .int a1, .int a2]) (QcM D cy ad A (m_n S) S' (some (.int r))) 0 0 A := by
  refine met_M (by decide +kernel) cw_X9_line (Nat.le_of_ble_eq_true rfl) ?_
  intro p e s m args below meth c ls C0 M hr hin hl
  have hl : lv_has ls 4 [(0, .ref (ad a0)), (1, .int a1), (2, .int a2)] := hl
  exact wX9_line_0 ad A C0 M hr h hl
set_option maxHeartbeats 4000000 in
set_option maxRecDepth 100000 in
theorem wX1_latestReadable_0 {p : Program} {l : Launch} {e : Env} {s : State} {m : MethodId} {args : Array Value} {below : List Frame} {meth : Method} {c : Code} {D : va_G} {cy : Nat → ClassId} (ad : Nat → Nat) (A : Nat → Prop) {S : MS} {r : Int32} {out : ((Nat × Int32 × Int32 × Int32 × Int32 × Int32) ⊕ Int32)} {ls : Array Slot} {x0 : Nat} {x1 : Int32} (C0 : CX p s m args meth c RX1 cX1_latestReadable 8 D cy) (M : MW D cy ad A S s.heap) (hr : meth.sig.returnType = some .int) (hF : bX1_latestReadable_0 S x0 x1 = some out) (hl : lv_has ls 8 [(0, .ref (ad x0)), (1, .int x1)]) (Kr : ∀ r9, out = .inr r9 → r9 = r) (Kh0 : ∀ (y0 : Nat) (y1 : Int32) (y2 : Int32) (y3 : Int32) (y4 : Int32) (y5 : Int32), out = .inl (y0, y1, y2, y3, y4, y5) → ∀ (ls1 : Array Slot), lv_has ls1 8 [(0, .ref (ad y0)), (1, .int y1), (2, .int y2), (3, .int y3), (4, .int y4), (5, .int y5)] → W p l e rmX1_latestReadable s m args below meth c s.heap [] 0 0 (MQ below (QcS (some (.int r))) args s 0 0 (fun _ => False)) (F0 m 11 ls1 [])) : W p l e rmX1_latestReadable s m args below meth c s.heap [] 0 0 (MQ below (QcS (some (.int r))) args s 0 0 (fun _ => False)) (F0 m 0 ls []) := by
  unfold bX1_latestReadable_0 at hF
  obtain ⟨hx, hb, -, hown, -, hts, -⟩ := id C0
  refine lv_bipush (v := (-9 : Int32)) hx hb dX1_latestReadable_0 (by decide) ?_
  refine lv_istore_n (lv' := [(2, .int (-9 : Int32)), (0, .ref (ad x0)), (1, .int x1)]) hx hb dX1_latestReadable_2 rfl hl (by decide) rfl (fun ls hl => ?_)
  refine lv_iconst (v := (0 : Int32)) hx hb dX1_latestReadable_3 (by decide) ?_
  refine lv_istore_n (lv' := [(3, .int (0 : Int32)), (2, .int (-9 : Int32)), (0, .ref (ad x0)), (1, .int x1)]) hx hb dX1_latestReadable_4 rfl hl (by decide) rfl (fun ls hl => ?_)
  refine lv_iconst (v := (0 : Int32)) hx hb dX1_latestReadable_5 (by decide) ?_
  refine lv_istore (lv' := [(4, .int (0 : Int32)), (3, .int (0 : Int32)), (2, .int (-9 : Int32)), (0, .ref (ad x0)), (1, .int x1)]) hx hb dX1_latestReadable_6 hl (by decide) rfl (fun ls hl => ?_)
  refine lv_iconst (v := (0 : Int32)) hx hb dX1_latestReadable_8 (by decide) ?_
  refine lv_istore (lv' := [(5, .int (0 : Int32)), (4, .int (0 : Int32)), (3, .int (0 : Int32)), (2, .int (-9 : Int32)), (0, .ref (ad x0)), (1, .int x1)]) hx hb dX1_latestReadable_9 hl (by decide) rfl (fun ls hl => ?_)
  exact Kh0 _ _ _ _ _ _ (Option.some.inj hF).symm _ (lv_sub hl [4, 5, 3, 2, 1, 0] rfl)
set_option maxHeartbeats 4000000 in
set_option maxRecDepth 100000 in
theorem wX1_latestReadable_123 {p : Program} {l : Launch} {e : Env} {s : State} {m : MethodId} {args : Array Value} {below : List Frame} {meth : Method} {c : Code} {D : va_G} {cy : Nat → ClassId} (ad : Nat → Nat) (A : Nat → Prop) {S : MS} {r : Int32} {out : ((Nat × Int32 × Int32 × Int32 × Int32 × Int32) ⊕ Int32)} {ls : Array Slot} {x0 : Nat} {x1 : Int32} {x2 : Int32} {x3 : Int32} {x4 : Int32} {x5 : Int32} (C0 : CX p s m args meth c RX1 cX1_latestReadable 8 D cy) (M : MW D cy ad A S s.heap) (hr : meth.sig.returnType = some .int) (hF : bX1_latestReadable_123 S x0 x1 x2 x3 x4 x5 = some out) (hl : lv_has ls 8 [(0, .ref (ad x0)), (1, .int x1), (2, .int x2), (3, .int x3), (4, .int x4), (5, .int x5)]) (Kr : ∀ r9, out = .inr r9 → r9 = r) (Kh0 : ∀ (y0 : Nat) (y1 : Int32) (y2 : Int32) (y3 : Int32) (y4 : Int32) (y5 : Int32), out = .inl (y0, y1, y2, y3, y4, y5) → ∀ (ls1 : Array Slot), lv_has ls1 8 [(0, .ref (ad y0)), (1, .int y1), (2, .int y2), (3, .int y3), (4, .int y4), (5, .int y5)] → W p l e rmX1_latestReadable s m args below meth c s.heap [] 0 0 (MQ below (QcS (some (.int r))) args s 0 0 (fun _ => False)) (F0 m 11 ls1 [])) : W p l e rmX1_latestReadable s m args below meth c s.heap [] 0 0 (MQ below (QcS (some (.int r))) args s 0 0 (fun _ => False)) (F0 m 123 ls []) := by
  unfold bX1_latestReadable_123 at hF
  obtain ⟨hx, hb, -, hown, -, hts, -⟩ := id C0
  obtain ⟨v123, hv, hF⟩ := ob hF
  refine lv_iinc (v := v123) (lv' := [(5, .int v123), (0, .ref (ad x0)), (1, .int x1), (2, .int x2), (3, .int x3), (4, .int x4)]) hx hb dX1_latestReadable_123 hl (k := 5) rfl (by rw [← vtI hv]; rfl) (by decide) rfl (fun ls hl => ?_)
  refine lv_goto (tgt := 11) hx hb dX1_latestReadable_126 (by decide) ?_
  exact Kh0 _ _ _ _ _ _ (Option.some.inj hF).symm _ (lv_sub hl [1, 2, 3, 4, 5, 0] rfl)
set_option maxHeartbeats 4000000 in
set_option maxRecDepth 100000 in
theorem wX1_latestReadable_121 {p : Program} {l : Launch} {e : Env} {s : State} {m : MethodId} {args : Array Value} {below : List Frame} {meth : Method} {c : Code} {D : va_G} {cy : Nat → ClassId} (ad : Nat → Nat) (A : Nat → Prop) {S : MS} {r : Int32} {out : ((Nat × Int32 × Int32 × Int32 × Int32 × Int32) ⊕ Int32)} {ls : Array Slot} {x0 : Nat} {x1 : Int32} {x2 : Int32} {x3 : Int32} {x5 : Int32} {z0 : Int32} (C0 : CX p s m args meth c RX1 cX1_latestReadable 8 D cy) (M : MW D cy ad A S s.heap) (hr : meth.sig.returnType = some .int) (hF : bX1_latestReadable_121 S x0 x1 x2 x3 x5 z0 = some out) (hl : lv_has ls 8 [(0, .ref (ad x0)), (1, .int x1), (2, .int x2), (3, .int x3), (5, .int x5)]) (Kr : ∀ r9, out = .inr r9 → r9 = r) (Kh0 : ∀ (y0 : Nat) (y1 : Int32) (y2 : Int32) (y3 : Int32) (y4 : Int32) (y5 : Int32), out = .inl (y0, y1, y2, y3, y4, y5) → ∀ (ls1 : Array Slot), lv_has ls1 8 [(0, .ref (ad y0)), (1, .int y1), (2, .int y2), (3, .int y3), (4, .int y4), (5, .int y5)] → W p l e rmX1_latestReadable s m args below meth c s.heap [] 0 0 (MQ below (QcS (some (.int r))) args s 0 0 (fun _ => False)) (F0 m 11 ls1 [])) : W p l e rmX1_latestReadable s m args below meth c s.heap [] 0 0 (MQ below (QcS (some (.int r))) args s 0 0 (fun _ => False)) (F0 m 121 ls [.int z0]) := by
  unfold bX1_latestReadable_121 at hF
  obtain ⟨hx, hb, -, hown, -, hts, -⟩ := id C0
  refine lv_istore (lv' := [(4, .int z0), (0, .ref (ad x0)), (1, .int x1), (2, .int x2), (3, .int x3), (5, .int x5)]) hx hb dX1_latestReadable_121 hl (by decide) rfl (fun ls hl => ?_)
  exact wX1_latestReadable_123 ad A C0 M hr hF (lv_sub hl [1, 2, 3, 4, 0, 5] rfl) Kr Kh0
set_option maxHeartbeats 4000000 in
set_option maxRecDepth 100000 in
theorem wX1_latestReadable_97 {p : Program} {l : Launch} {e : Env} {s : State} {m : MethodId} {args : Array Value} {below : List Frame} {meth : Method} {c : Code} {D : va_G} {cy : Nat → ClassId} (ad : Nat → Nat) (A : Nat → Prop) {S : MS} {r : Int32} {out : ((Nat × Int32 × Int32 × Int32 × Int32 × Int32) ⊕ Int32)} {ls : Array Slot} {x0 : Nat} {x1 : Int32} {x5 : Int32} {x6 : Nat} (C0 : CX p s m args meth c RX1 cX1_latestReadable 8 D cy) (M : MW D cy ad A S s.heap) (hr : meth.sig.returnType = some .int) (hF : bX1_latestReadable_97 S x0 x1 x5 x6 = some out) (hl : lv_has ls 8 [(0, .ref (ad x0)), (1, .int x1), (5, .int x5), (6, .ref (ad x6))]) (Kr : ∀ r9, out = .inr r9 → r9 = r) (Kh0 : ∀ (y0 : Nat) (y1 : Int32) (y2 : Int32) (y3 : Int32) (y4 : Int32) (y5 : Int32), out = .inl (y0, y1, y2, y3, y4, y5) → ∀ (ls1 : Array Slot), lv_has ls1 8 [(0, .ref (ad y0)), (1, .int y1), (2, .int y2), (3, .int y3), (4, .int y4), (5, .int y5)] → W p l e rmX1_latestReadable s m args below meth c s.heap [] 0 0 (MQ below (QcS (some (.int r))) args s 0 0 (fun _ => False)) (F0 m 11 ls1 [])) : W p l e rmX1_latestReadable s m args below meth c s.heap [] 0 0 (MQ below (QcS (some (.int r))) args s 0 0 (fun _ => False)) (F0 m 97 ls []) := by
  unfold bX1_latestReadable_97 at hF
  obtain ⟨hx, hb, -, hown, -, hts, -⟩ := id C0
  refine lv_iload hx hb dX1_latestReadable_97 (lv_at hl 2 rfl) ?_
  refine lv_istore_n (lv' := [(2, .int x5), (0, .ref (ad x0)), (1, .int x1), (5, .int x5), (6, .ref (ad x6))]) hx hb dX1_latestReadable_99 rfl hl (by decide) rfl (fun ls hl => ?_)
  refine lv_aload hx hb dX1_latestReadable_100 (lv_at hl 4 rfl) ?_
  obtain ⟨v102, hv, hF⟩ := ob hF
  refine k_getI C0 M hv fl_X1_77 dX1_latestReadable_102 ?_
  refine lv_istore_n (lv' := [(3, .int v102), (2, .int x5), (0, .ref (ad x0)), (1, .int x1), (5, .int x5), (6, .ref (ad x6))]) hx hb dX1_latestReadable_105 rfl hl (by decide) rfl (fun ls hl => ?_)
  refine lv_aload hx hb dX1_latestReadable_106 (lv_at hl 5 rfl) ?_
  obtain ⟨v108, hv, hF⟩ := ob hF
  refine k_getP C0 M hv fl_X1_66 dX1_latestReadable_108 ?_
  refine lv_iconst (v := (1 : Int32)) hx hb dX1_latestReadable_111 (by decide) ?_
  obtain ⟨v112, hv, hF⟩ := ob hF
  refine k_ld C0 M hv dX1_latestReadable_112 ?_
  refine lv_if_le (tgt := 120) hx hb dX1_latestReadable_113 (by decide) (fun hc => ?_) (fun hc => ?_)
  · have hF := oi_t hc hF
    refine lv_iconst (v := (0 : Int32)) hx hb dX1_latestReadable_120 (by decide) ?_
    exact wX1_latestReadable_121 ad A C0 M hr hF (lv_sub hl [2, 3, 1, 0, 4] rfl) Kr Kh0
  · have hF := oi_f hc hF
    refine lv_iconst (v := (1 : Int32)) hx hb dX1_latestReadable_116 (by decide) ?_
    refine lv_goto (tgt := 121) hx hb dX1_latestReadable_117 (by decide) ?_
    exact wX1_latestReadable_121 ad A C0 M hr hF (lv_sub hl [2, 3, 1, 0, 4] rfl) Kr Kh0
set_option maxHeartbeats 4000000 in
set_option maxRecDepth 100000 in
theorem wX1_latestReadable_75 {p : Program} {l : Launch} {e : Env} {s : State} {m : MethodId} {args : Array Value} {below : List Frame} {meth : Method} {c : Code} {D : va_G} {cy : Nat → ClassId} (ad : Nat → Nat) (A : Nat → Prop) {S : MS} {r : Int32} {out : ((Nat × Int32 × Int32 × Int32 × Int32 × Int32) ⊕ Int32)} {ls : Array Slot} {x0 : Nat} {x1 : Int32} {x2 : Int32} {x3 : Int32} {x4 : Int32} {x5 : Int32} {x6 : Nat} {z0 : Int32} (C0 : CX p s m args meth c RX1 cX1_latestReadable 8 D cy) (M : MW D cy ad A S s.heap) (hr : meth.sig.returnType = some .int) (hF : bX1_latestReadable_75 S x0 x1 x2 x3 x4 x5 x6 z0 = some out) (hl : lv_has ls 8 [(0, .ref (ad x0)), (1, .int x1), (2, .int x2), (3, .int x3), (4, .int x4), (5, .int x5), (6, .ref (ad x6))]) (Kr : ∀ r9, out = .inr r9 → r9 = r) (Kh0 : ∀ (y0 : Nat) (y1 : Int32) (y2 : Int32) (y3 : Int32) (y4 : Int32) (y5 : Int32), out = .inl (y0, y1, y2, y3, y4, y5) → ∀ (ls1 : Array Slot), lv_has ls1 8 [(0, .ref (ad y0)), (1, .int y1), (2, .int y2), (3, .int y3), (4, .int y4), (5, .int y5)] → W p l e rmX1_latestReadable s m args below meth c s.heap [] 0 0 (MQ below (QcS (some (.int r))) args s 0 0 (fun _ => False)) (F0 m 11 ls1 [])) : W p l e rmX1_latestReadable s m args below meth c s.heap [] 0 0 (MQ below (QcS (some (.int r))) args s 0 0 (fun _ => False)) (F0 m 75 ls [.int z0]) := by
  unfold bX1_latestReadable_75 at hF
  obtain ⟨hx, hb, -, hown, -, hts, -⟩ := id C0
  refine lv_istore (lv' := [(7, .int z0), (0, .ref (ad x0)), (1, .int x1), (2, .int x2), (3, .int x3), (4, .int x4), (5, .int x5), (6, .ref (ad x6))]) hx hb dX1_latestReadable_75 hl (by decide) rfl (fun ls hl => ?_)
  refine lv_iload hx hb dX1_latestReadable_77 (lv_at hl 0 rfl) ?_
  refine lv_if_eq (tgt := 123) hx hb dX1_latestReadable_79 (by decide) (fun hc => ?_) (fun hc => ?_)
  · have hF := oi_t hc hF
    exact wX1_latestReadable_123 ad A C0 M hr hF (lv_sub hl [1, 2, 3, 4, 5, 6] rfl) Kr Kh0
  · have hF := oi_f hc hF
    refine lv_iload_n hx hb dX1_latestReadable_82 rfl (lv_at hl 3 rfl) ?_
    refine lv_bipush (v := (-9 : Int32)) hx hb dX1_latestReadable_83 (by decide) ?_
    refine lv_icmp_eq (tgt := 97) hx hb dX1_latestReadable_85 (by decide) (fun hc => ?_) (fun hc => ?_)
    · have hF := oi_t hc hF
      exact wX1_latestReadable_97 ad A C0 M hr hF (lv_sub hl [1, 2, 6, 7] rfl) Kr Kh0
    · have hF := oi_f hc hF
      refine lv_aload hx hb dX1_latestReadable_88 (lv_at hl 7 rfl) ?_
      obtain ⟨v90, hv, hF⟩ := ob hF
      refine k_getI C0 M hv fl_X1_77 dX1_latestReadable_90 ?_
      refine lv_iload_n hx hb dX1_latestReadable_93 rfl (lv_at hl 4 rfl) ?_
      refine lv_icmp_lt (tgt := 123) hx hb dX1_latestReadable_94 (by decide) (fun hc => ?_) (fun hc => ?_)
      · have hF := oi_t hc hF
        exact wX1_latestReadable_123 ad A C0 M hr hF (lv_sub hl [1, 2, 3, 4, 5, 6] rfl) Kr Kh0
      · have hF := oi_f hc hF
        exact wX1_latestReadable_97 ad A C0 M hr hF (lv_sub hl [1, 2, 6, 7] rfl) Kr Kh0
set_option maxHeartbeats 4000000 in
set_option maxRecDepth 100000 in
theorem wX1_latestReadable_74 {p : Program} {l : Launch} {e : Env} {s : State} {m : MethodId} {args : Array Value} {below : List Frame} {meth : Method} {c : Code} {D : va_G} {cy : Nat → ClassId} (ad : Nat → Nat) (A : Nat → Prop) {S : MS} {r : Int32} {out : ((Nat × Int32 × Int32 × Int32 × Int32 × Int32) ⊕ Int32)} {ls : Array Slot} {x0 : Nat} {x1 : Int32} {x2 : Int32} {x3 : Int32} {x4 : Int32} {x5 : Int32} {x6 : Nat} (C0 : CX p s m args meth c RX1 cX1_latestReadable 8 D cy) (M : MW D cy ad A S s.heap) (hr : meth.sig.returnType = some .int) (hF : bX1_latestReadable_74 S x0 x1 x2 x3 x4 x5 x6 = some out) (hl : lv_has ls 8 [(0, .ref (ad x0)), (1, .int x1), (2, .int x2), (3, .int x3), (4, .int x4), (5, .int x5), (6, .ref (ad x6))]) (Kr : ∀ r9, out = .inr r9 → r9 = r) (Kh0 : ∀ (y0 : Nat) (y1 : Int32) (y2 : Int32) (y3 : Int32) (y4 : Int32) (y5 : Int32), out = .inl (y0, y1, y2, y3, y4, y5) → ∀ (ls1 : Array Slot), lv_has ls1 8 [(0, .ref (ad y0)), (1, .int y1), (2, .int y2), (3, .int y3), (4, .int y4), (5, .int y5)] → W p l e rmX1_latestReadable s m args below meth c s.heap [] 0 0 (MQ below (QcS (some (.int r))) args s 0 0 (fun _ => False)) (F0 m 11 ls1 [])) : W p l e rmX1_latestReadable s m args below meth c s.heap [] 0 0 (MQ below (QcS (some (.int r))) args s 0 0 (fun _ => False)) (F0 m 74 ls []) := by
  unfold bX1_latestReadable_74 at hF
  obtain ⟨hx, hb, -, hown, -, hts, -⟩ := id C0
  refine lv_iconst (v := (0 : Int32)) hx hb dX1_latestReadable_74 (by decide) ?_
  exact wX1_latestReadable_75 ad A C0 M hr hF (lv_sub hl [0, 1, 2, 3, 4, 5, 6] rfl) Kr Kh0
set_option maxHeartbeats 4000000 in
set_option maxRecDepth 100000 in
theorem wX1_latestReadable_140 {p : Program} {l : Launch} {e : Env} {s : State} {m : MethodId} {args : Array Value} {below : List Frame} {meth : Method} {c : Code} {D : va_G} {cy : Nat → ClassId} (ad : Nat → Nat) (A : Nat → Prop) {S : MS} {r : Int32} {out : ((Nat × Int32 × Int32 × Int32 × Int32 × Int32) ⊕ Int32)} {ls : Array Slot} {z0 : Int32} (C0 : CX p s m args meth c RX1 cX1_latestReadable 8 D cy) (M : MW D cy ad A S s.heap) (hr : meth.sig.returnType = some .int) (hF : bX1_latestReadable_140 S z0 = some out) (hl : lv_has ls 8 []) (Kr : ∀ r9, out = .inr r9 → r9 = r) (Kh0 : ∀ (y0 : Nat) (y1 : Int32) (y2 : Int32) (y3 : Int32) (y4 : Int32) (y5 : Int32), out = .inl (y0, y1, y2, y3, y4, y5) → ∀ (ls1 : Array Slot), lv_has ls1 8 [(0, .ref (ad y0)), (1, .int y1), (2, .int y2), (3, .int y3), (4, .int y4), (5, .int y5)] → W p l e rmX1_latestReadable s m args below meth c s.heap [] 0 0 (MQ below (QcS (some (.int r))) args s 0 0 (fun _ => False)) (F0 m 11 ls1 [])) : W p l e rmX1_latestReadable s m args below meth c s.heap [] 0 0 (MQ below (QcS (some (.int r))) args s 0 0 (fun _ => False)) (F0 m 140 ls [.int z0]) := by
  unfold bX1_latestReadable_140 at hF
  obtain ⟨hx, hb, -, hown, -, hts, -⟩ := id C0
  obtain rfl := (Kr _ (Option.some.inj hF).symm)
  exact rt_SI C0 hr dX1_latestReadable_140
set_option maxHeartbeats 4000000 in
set_option maxRecDepth 100000 in
theorem wX1_latestReadable_11 {p : Program} {l : Launch} {e : Env} {s : State} {m : MethodId} {args : Array Value} {below : List Frame} {meth : Method} {c : Code} {D : va_G} {cy : Nat → ClassId} (ad : Nat → Nat) (A : Nat → Prop) {S : MS} {r : Int32} {out : ((Nat × Int32 × Int32 × Int32 × Int32 × Int32) ⊕ Int32)} {ls : Array Slot} {x0 : Nat} {x1 : Int32} {x2 : Int32} {x3 : Int32} {x4 : Int32} {x5 : Int32} (C0 : CX p s m args meth c RX1 cX1_latestReadable 8 D cy) (M : MW D cy ad A S s.heap) (hr : meth.sig.returnType = some .int) (hF : bX1_latestReadable_11 S x0 x1 x2 x3 x4 x5 = some out) (hl : lv_has ls 8 [(0, .ref (ad x0)), (1, .int x1), (2, .int x2), (3, .int x3), (4, .int x4), (5, .int x5)]) (Kr : ∀ r9, out = .inr r9 → r9 = r) (Kh0 : ∀ (y0 : Nat) (y1 : Int32) (y2 : Int32) (y3 : Int32) (y4 : Int32) (y5 : Int32), out = .inl (y0, y1, y2, y3, y4, y5) → ∀ (ls1 : Array Slot), lv_has ls1 8 [(0, .ref (ad y0)), (1, .int y1), (2, .int y2), (3, .int y3), (4, .int y4), (5, .int y5)] → W p l e rmX1_latestReadable s m args below meth c s.heap [] 0 0 (MQ below (QcS (some (.int r))) args s 0 0 (fun _ => False)) (F0 m 11 ls1 [])) : W p l e rmX1_latestReadable s m args below meth c s.heap [] 0 0 (MQ below (QcS (some (.int r))) args s 0 0 (fun _ => False)) (F0 m 11 ls []) := by
  unfold bX1_latestReadable_11 at hF
  obtain ⟨hx, hb, -, hown, -, hts, -⟩ := id C0
  refine lv_iload hx hb dX1_latestReadable_11 (lv_at hl 5 rfl) ?_
  refine lv_aload_n hx hb dX1_latestReadable_13 rfl (lv_at hl 0 rfl) ?_
  obtain ⟨v14, hv, hF⟩ := ob hF
  refine k_getP C0 M hv fl_X1_18 dX1_latestReadable_14 ?_
  obtain ⟨_, hrec, hF⟩ := ob hF
  obtain ⟨v17, hcl, hF⟩ := ob hF
  refine go_SI (r_V (rest := [.int x5]) (As := []) C0 cb_X1_44 M hrec (tJx4a65c_size_8abf5 l D cy ad A hcl) (pre_R C0 M) hl dX1_latestReadable_17 rfl (Nat.le_of_ble_eq_true rfl) ⟨rfl, rfl⟩ ⟨Nat.le_of_ble_eq_true rfl, Nat.le_of_ble_eq_true rfl⟩ ⟨Nat.le_of_ble_eq_true rfl, Nat.le_of_ble_eq_true rfl⟩ rfl) ?_
  refine lv_icmp_ge (tgt := 129) hx hb dX1_latestReadable_20 (by decide) (fun hc => ?_) (fun hc => ?_)
  · have hF := oi_t hc hF
    refine lv_iload hx hb dX1_latestReadable_129 (lv_at hl 4 rfl) ?_
    refine lv_if_eq (tgt := 138) hx hb dX1_latestReadable_131 (by decide) (fun hc => ?_) (fun hc => ?_)
    · have hF := oi_t hc hF
      refine lv_bipush (v := (-9 : Int32)) hx hb dX1_latestReadable_138 (by decide) ?_
      exact wX1_latestReadable_140 ad A C0 M hr hF (lv_sub hl [] rfl) Kr Kh0
    · have hF := oi_f hc hF
      refine lv_iload_n hx hb dX1_latestReadable_134 rfl (lv_at hl 2 rfl) ?_
      refine lv_goto (tgt := 140) hx hb dX1_latestReadable_135 (by decide) ?_
      exact wX1_latestReadable_140 ad A C0 M hr hF (lv_sub hl [] rfl) Kr Kh0
  · have hF := oi_f hc hF
    refine lv_aload_n hx hb dX1_latestReadable_23 rfl (lv_at hl 0 rfl) ?_
    obtain ⟨v24, hv, hF⟩ := ob hF
    refine k_getP C0 M hv fl_X1_18 dX1_latestReadable_24 ?_
    refine lv_iload hx hb dX1_latestReadable_27 (lv_at hl 5 rfl) ?_
    obtain ⟨_, hrec, hF⟩ := ob hF
    obtain ⟨v29, hcl, hF⟩ := ob hF
    refine go_SP (r_V (rest := []) (As := [.int x5]) C0 cb_X1_48 M hrec (tJx4a65c_get_915e3 l D cy ad A hcl) (pre_R C0 M) hl dX1_latestReadable_29 rfl (Nat.le_of_ble_eq_true rfl) ⟨rfl, rfl⟩ ⟨Nat.le_of_ble_eq_true rfl, Nat.le_of_ble_eq_true rfl⟩ ⟨Nat.le_of_ble_eq_true rfl, Nat.le_of_ble_eq_true rfl⟩ rfl) ?_
    obtain ⟨v32, hv, hF⟩ := ob hF
    refine k_cast (C := RX8) (T := TX8) (N := 6) C0 M hv (by decide) rfl (uw_of 477 (by decide +kernel) rfl) dX1_latestReadable_32 ?_
    refine lv_astore (lv' := [(6, .ref (ad v32)), (0, .ref (ad x0)), (1, .int x1), (2, .int x2), (3, .int x3), (4, .int x4), (5, .int x5)]) hx hb dX1_latestReadable_35 hl (by decide) rfl (fun ls hl => ?_)
    refine lv_aload hx hb dX1_latestReadable_37 (lv_at hl 0 rfl) ?_
    obtain ⟨v39, hv, hF⟩ := ob hF
    refine k_getI C0 M hv fl_X1_54 dX1_latestReadable_39 ?_
    refine lv_iload_n hx hb dX1_latestReadable_42 rfl (lv_at hl 2 rfl) ?_
    refine lv_icmp_ne (tgt := 74) hx hb dX1_latestReadable_43 (by decide) (fun hc => ?_) (fun hc => ?_)
    · have hF := oi_f hc hF
      exact wX1_latestReadable_74 ad A C0 M hr hF (lv_sub hl [1, 2, 3, 4, 5, 6, 0] rfl) Kr Kh0
    · have hF := oi_t hc hF
      refine lv_aload hx hb dX1_latestReadable_46 (lv_at hl 0 rfl) ?_
      obtain ⟨v48, hv, hF⟩ := ob hF
      refine k_getI C0 M hv fl_X1_76 dX1_latestReadable_48 ?_
      refine lv_aload_n hx hb dX1_latestReadable_51 rfl (lv_at hl 1 rfl) ?_
      obtain ⟨v52, hv, hF⟩ := ob hF
      refine k_getI C0 M hv fl_X1_21 dX1_latestReadable_52 ?_
      refine lv_icmp_ne (tgt := 74) hx hb dX1_latestReadable_55 (by decide) (fun hc => ?_) (fun hc => ?_)
      · have hF := oi_f hc hF
        exact wX1_latestReadable_74 ad A C0 M hr hF (lv_sub hl [1, 2, 3, 4, 5, 6, 0] rfl) Kr Kh0
      · have hF := oi_t hc hF
        refine lv_aload hx hb dX1_latestReadable_58 (lv_at hl 0 rfl) ?_
        obtain ⟨v60, hv, hF⟩ := ob hF
        refine k_getI C0 M hv fl_X1_77 dX1_latestReadable_60 ?_
        refine lv_aload_n hx hb dX1_latestReadable_63 rfl (lv_at hl 1 rfl) ?_
        obtain ⟨v64, hv, hF⟩ := ob hF
        refine k_getI C0 M hv fl_X1_25 dX1_latestReadable_64 ?_
        refine lv_icmp_gt (tgt := 74) hx hb dX1_latestReadable_67 (by decide) (fun hc => ?_) (fun hc => ?_)
        · have hF := oi_t hc hF
          exact wX1_latestReadable_74 ad A C0 M hr hF (lv_sub hl [1, 2, 3, 4, 5, 6, 0] rfl) Kr Kh0
        · have hF := oi_f hc hF
          refine lv_iconst (v := (1 : Int32)) hx hb dX1_latestReadable_70 (by decide) ?_
          refine lv_goto (tgt := 75) hx hb dX1_latestReadable_71 (by decide) ?_
          exact wX1_latestReadable_75 ad A C0 M hr hF (lv_sub hl [1, 2, 3, 4, 5, 6, 0] rfl) Kr Kh0
set_option maxHeartbeats 4000000 in
set_option maxRecDepth 100000 in
theorem tX1_latestReadable (l : Launch) (D : va_G) (cy : Nat → ClassId) (ad : Nat → Nat) (A : Nat → Prop) {S : MS} {a0 : Nat} {a1 : Int32} {r : Int32} (h : fX1_latestReadable S a0 a1 = some r) : Met l yX1_latestReadable [Cond.code yX1_latestReadable cX1_latestReadable 8 (some .int)] rmX1_latestReadable (PcR D cy ad A S [.ref (ad a0), .int a1]) (QcS (some (.int r))) 0 0 (fun _ => False) := by
  refine met_R (by decide +kernel) cw_X1_latestReadable (Nat.le_of_ble_eq_true rfl) ?_
  intro p e s m args below meth c ls C0 M hr hl
  have hl : lv_has ls 8 [(0, .ref (ad a0)), (1, .int a1)] := hl
  have key := lim_walk (step := sX1_latestReadable S) (fun (q : (Nat × Int32 × Int32 × Int32 × Int32 × Int32)) (r9 : Int32) => ∀ (r : Int32), r9 = r → ((∀ (y0 : Nat) (y1 : Int32) (y2 : Int32) (y3 : Int32) (y4 : Int32) (y5 : Int32), q = (y0, y1, y2, y3, y4, y5) → ∀ (ls1 : Array Slot), lv_has ls1 8 [(0, .ref (ad y0)), (1, .int y1), (2, .int y2), (3, .int y3), (4, .int y4), (5, .int y5)] → W p l e rmX1_latestReadable s m args below meth c s.heap [] 0 0 (MQ below (QcS (some (.int r))) args s 0 0 (fun _ => False)) (F0 m 11 ls1 [])))) ?_
  · unfold fX1_latestReadable at h
    cases hs0 : bX1_latestReadable_0 S a0 a1 with
    | none => rw [hs0] at h; cases h
    | some out =>
      rw [hs0] at h
      refine wX1_latestReadable_0 ad A C0 M hr hs0 hl (fun r9 hr9 => ?_) ?_
      · subst hr9; exact Option.some.inj h
      · intro y0 y1 y2 y3 y4 y5 hq; subst hq; exact (key _ _ h _ rfl) _ _ _ _ _ _ rfl
  · intro q r9 out hst hre hin9
    intro r er; subst er
    refine ?_
    · intro y0 y1 y2 y3 y4 y5 hq ls1 hl
      subst hq
      exact wX1_latestReadable_11 ad A C0 M hr hst hl hre (fun k0 k1 k2 k3 k4 k5 hk => (hin9 _ hk _ rfl) _ _ _ _ _ _ rfl)
set_option maxHeartbeats 4000000 in
set_option maxRecDepth 100000 in
theorem wX6_along_58 {p : Program} {l : Launch} {e : Env} {s : State} {m : MethodId} {args : Array Value} {below : List Frame} {meth : Method} {c : Code} {D : va_G} {cy : Nat → ClassId} (ad : Nat → Nat) (A : Nat → Prop) {S : MS} {r : Int32} {ls : Array Slot} {z0 : Int32} (C0 : CX p s m args meth c RX6 cX6_along 6 D cy) (M : MW D cy ad A S s.heap) (hr : meth.sig.returnType = some .int) (hF : bX6_along_58 S z0 = some r) (hl : lv_has ls 6 []) : W p l e rmX6_along s m args below meth c s.heap [] 0 0 (MQ below (QcS (some (.int r))) args s 0 0 (fun _ => False)) (F0 m 58 ls [.int z0]) := by
  unfold bX6_along_58 at hF
  obtain ⟨hx, hb, -, hown, -, hts, -⟩ := id C0
  obtain rfl := (Option.some.inj hF)
  exact rt_SI C0 hr dX6_along_58
set_option maxHeartbeats 4000000 in
set_option maxRecDepth 100000 in
theorem wX6_along_0 {p : Program} {l : Launch} {e : Env} {s : State} {m : MethodId} {args : Array Value} {below : List Frame} {meth : Method} {c : Code} {D : va_G} {cy : Nat → ClassId} (ad : Nat → Nat) (A : Nat → Prop) {S : MS} {r : Int32} {ls : Array Slot} {x0 : Nat} {x1 : Int32} {x2 : Int32} {x3 : Int32} (C0 : CX p s m args meth c RX6 cX6_along 6 D cy) (M : MW D cy ad A S s.heap) (hr : meth.sig.returnType = some .int) (hF : bX6_along_0 S x0 x1 x2 x3 = some r) (hl : lv_has ls 6 [(0, .ref (ad x0)), (1, .int x1), (2, .int x2), (3, .int x3)]) : W p l e rmX6_along s m args below meth c s.heap [] 0 0 (MQ below (QcS (some (.int r))) args s 0 0 (fun _ => False)) (F0 m 0 ls []) := by
  unfold bX6_along_0 at hF
  obtain ⟨hx, hb, -, hown, -, hts, -⟩ := id C0
  refine lv_aload_n hx hb dX6_along_0 rfl (lv_at hl 0 rfl) ?_
  obtain ⟨v1, hv, hF⟩ := ob hF
  refine k_getI C0 M hv fl_X6_9 dX6_along_1 ?_
  refine lv_if_ne (tgt := 9) hx hb dX6_along_4 (by decide) (fun hc => ?_) (fun hc => ?_)
  · have hF := oi_f hc hF
    refine lv_iload_n hx hb dX6_along_9 rfl (lv_at hl 1 rfl) ?_
    refine lv_iload_n hx hb dX6_along_10 rfl (lv_at hl 2 rfl) ?_
    refine lv_iload_n hx hb dX6_along_11 rfl (lv_at hl 3 rfl) ?_
    refine lv_imul hx hb dX6_along_12 ?_
    refine lv_bipush (v := (10 : Int32)) hx hb dX6_along_13 (by decide) ?_
    obtain ⟨v15, hcl, hF⟩ := ob hF
    refine go_SI (r_S (rest := [.int x1]) (As := [.int (x2 * x3), .int (10 : Int32)]) C0 cb_X6_38 (tJ9_floorDiv_7cf53 l D cy ad hcl) (pre_S C0) hl dX6_along_15 rfl (Nat.le_of_ble_eq_true rfl) ⟨rfl, rfl⟩ ⟨Nat.le_of_ble_eq_true rfl, Nat.le_of_ble_eq_true rfl⟩ ⟨Nat.le_of_ble_eq_true rfl, Nat.le_of_ble_eq_true rfl⟩ rfl) ?_
    refine lv_iadd hx hb dX6_along_18 ?_
    obtain ⟨v19, hv, hF⟩ := ob hF
    have hv := vtI hv
    refine vtopi hv ?_
    refine lv_istore (lv' := [(4, .int v19), (0, .ref (ad x0)), (1, .int x1), (2, .int x2), (3, .int x3)]) hx hb dX6_along_19 hl (by decide) rfl (fun ls hl => ?_)
    refine lv_aload_n hx hb dX6_along_21 rfl (lv_at hl 1 rfl) ?_
    obtain ⟨v22, hv, hF⟩ := ob hF
    refine k_getI C0 M hv fl_X6_9 dX6_along_22 ?_
    refine lv_iconst (v := (1 : Int32)) hx hb dX6_along_25 (by decide) ?_
    refine lv_icmp_ne (tgt := 32) hx hb dX6_along_26 (by decide) (fun hc => ?_) (fun hc => ?_)
    · have hF := oi_f hc hF
      refine lv_iload hx hb dX6_along_32 (lv_at hl 0 rfl) ?_
      refine lv_bipush (v := (22 : Int32)) hx hb dX6_along_34 (by decide) ?_
      obtain ⟨v36, hcl, hF⟩ := ob hF
      refine go_SI (r_S (rest := []) (As := [.int v19, .int (22 : Int32)]) C0 cb_X6_44 (tJ9_floorMod_7cf53 l D cy ad hcl) (pre_S C0) hl dX6_along_36 rfl (Nat.le_of_ble_eq_true rfl) ⟨rfl, rfl⟩ ⟨Nat.le_of_ble_eq_true rfl, Nat.le_of_ble_eq_true rfl⟩ ⟨Nat.le_of_ble_eq_true rfl, Nat.le_of_ble_eq_true rfl⟩ rfl) ?_
      refine lv_istore (lv' := [(5, .int v36), (4, .int v19), (0, .ref (ad x0)), (1, .int x1), (2, .int x2), (3, .int x3)]) hx hb dX6_along_39 hl (by decide) rfl (fun ls hl => ?_)
      refine lv_iload hx hb dX6_along_41 (lv_at hl 0 rfl) ?_
      refine lv_bipush (v := (11 : Int32)) hx hb dX6_along_43 (by decide) ?_
      refine lv_icmp_le (tgt := 56) hx hb dX6_along_45 (by decide) (fun hc => ?_) (fun hc => ?_)
      · have hF := oi_t hc hF
        refine lv_iload hx hb dX6_along_56 (lv_at hl 0 rfl) ?_
        exact wX6_along_58 ad A C0 M hr hF (lv_sub hl [] rfl)
      · have hF := oi_f hc hF
        refine lv_bipush (v := (22 : Int32)) hx hb dX6_along_48 (by decide) ?_
        refine lv_iload hx hb dX6_along_50 (lv_at hl 0 rfl) ?_
        refine lv_isub hx hb dX6_along_52 ?_
        refine lv_goto (tgt := 58) hx hb dX6_along_53 (by decide) ?_
        exact wX6_along_58 ad A C0 M hr hF (lv_sub hl [] rfl)
    · have hF := oi_t hc hF
      refine lv_iload hx hb dX6_along_29 (lv_at hl 0 rfl) ?_
      obtain rfl := (Option.some.inj hF)
      exact rt_SI C0 hr dX6_along_31
  · have hF := oi_t hc hF
    refine lv_iload_n hx hb dX6_along_7 rfl (lv_at hl 1 rfl) ?_
    obtain rfl := (Option.some.inj hF)
    exact rt_SI C0 hr dX6_along_8
set_option maxHeartbeats 4000000 in
set_option maxRecDepth 100000 in
theorem tX6_along (l : Launch) (D : va_G) (cy : Nat → ClassId) (ad : Nat → Nat) (A : Nat → Prop) {S : MS} {a0 : Nat} {a1 : Int32} {a2 : Int32} {a3 : Int32} {r : Int32} (h : fX6_along S a0 a1 a2 a3 = some r) : Met l yX6_along [Cond.code yX6_along cX6_along 6 (some .int)] rmX6_along (PcR D cy ad A S [.ref (ad a0), .int a1, .int a2, .int a3]) (QcS (some (.int r))) 0 0 (fun _ => False) := by
  refine met_R (by decide +kernel) cw_X6_along (Nat.le_of_ble_eq_true rfl) ?_
  intro p e s m args below meth c ls C0 M hr hl
  have hl : lv_has ls 6 [(0, .ref (ad a0)), (1, .int a1), (2, .int a2), (3, .int a3)] := hl
  exact wX6_along_0 ad A C0 M hr h hl
set_option maxHeartbeats 4000000 in
set_option maxRecDepth 100000 in
theorem wX6_placeAt_47 {p : Program} {l : Launch} {e : Env} {s : State} {m : MethodId} {args : Array Value} {below : List Frame} {meth : Method} {c : Code} {D : va_G} {cy : Nat → ClassId} (ad : Nat → Nat) (A : Nat → Prop) {S : MS} {r : Int32} {ls : Array Slot} {z0 : Int32} (C0 : CX p s m args meth c RX6 cX6_placeAt 4 D cy) (M : MW D cy ad A S s.heap) (hr : meth.sig.returnType = some .int) (hF : bX6_placeAt_47 S z0 = some r) (hl : lv_has ls 4 []) : W p l e rmX6_placeAt s m args below meth c s.heap [] 0 0 (MQ below (QcS (some (.int r))) args s 0 0 (fun _ => False)) (F0 m 47 ls [.int z0]) := by
  unfold bX6_placeAt_47 at hF
  obtain ⟨hx, hb, -, hown, -, hts, -⟩ := id C0
  obtain rfl := (Option.some.inj hF)
  exact rt_SI C0 hr dX6_placeAt_47
set_option maxHeartbeats 4000000 in
set_option maxRecDepth 100000 in
theorem wX6_placeAt_0 {p : Program} {l : Launch} {e : Env} {s : State} {m : MethodId} {args : Array Value} {below : List Frame} {meth : Method} {c : Code} {D : va_G} {cy : Nat → ClassId} (ad : Nat → Nat) (A : Nat → Prop) {S : MS} {r : Int32} {ls : Array Slot} {x0 : Nat} {x1 : Int32} (C0 : CX p s m args meth c RX6 cX6_placeAt 4 D cy) (M : MW D cy ad A S s.heap) (hr : meth.sig.returnType = some .int) (hF : bX6_placeAt_0 S x0 x1 = some r) (hl : lv_has ls 4 [(0, .ref (ad x0)), (1, .int x1)]) : W p l e rmX6_placeAt s m args below meth c s.heap [] 0 0 (MQ below (QcS (some (.int r))) args s 0 0 (fun _ => False)) (F0 m 0 ls []) := by
  unfold bX6_placeAt_0 at hF
  obtain ⟨hx, hb, -, hown, -, hts, -⟩ := id C0
  refine lv_aload_n hx hb dX6_placeAt_0 rfl (lv_at hl 0 rfl) ?_
  refine lv_aload_n hx hb dX6_placeAt_1 rfl (lv_at hl 0 rfl) ?_
  obtain ⟨v2, hv, hF⟩ := ob hF
  refine k_getI C0 M hv fl_X6_15 dX6_placeAt_2 ?_
  refine lv_aload_n hx hb dX6_placeAt_5 rfl (lv_at hl 0 rfl) ?_
  obtain ⟨v6, hv, hF⟩ := ob hF
  refine k_getI C0 M hv fl_X6_24 dX6_placeAt_6 ?_
  refine lv_iload_n hx hb dX6_placeAt_9 rfl (lv_at hl 1 rfl) ?_
  obtain ⟨_, hrec, hF⟩ := ob hF
  obtain ⟨v10, hcl, hF⟩ := ob hF
  refine go_SI (r_V (rest := []) (As := [.int v2, .int v6, .int x1]) C0 cb_X6_30 M hrec (tX6_along l D cy ad A hcl) (pre_R C0 M) hl dX6_placeAt_10 rfl (Nat.le_of_ble_eq_true rfl) ⟨rfl, rfl⟩ ⟨Nat.le_of_ble_eq_true rfl, Nat.le_of_ble_eq_true rfl⟩ ⟨Nat.le_of_ble_eq_true rfl, Nat.le_of_ble_eq_true rfl⟩ rfl) ?_
  refine lv_istore_n (lv' := [(2, .int v10), (0, .ref (ad x0)), (1, .int x1)]) hx hb dX6_placeAt_13 rfl hl (by decide) rfl (fun ls hl => ?_)
  refine lv_aload_n hx hb dX6_placeAt_14 rfl (lv_at hl 1 rfl) ?_
  refine lv_aload_n hx hb dX6_placeAt_15 rfl (lv_at hl 1 rfl) ?_
  obtain ⟨v16, hv, hF⟩ := ob hF
  refine k_getI C0 M hv fl_X6_18 dX6_placeAt_16 ?_
  refine lv_aload_n hx hb dX6_placeAt_19 rfl (lv_at hl 1 rfl) ?_
  obtain ⟨v20, hv, hF⟩ := ob hF
  refine k_getI C0 M hv fl_X6_27 dX6_placeAt_20 ?_
  refine lv_iload_n hx hb dX6_placeAt_23 rfl (lv_at hl 2 rfl) ?_
  obtain ⟨_, hrec, hF⟩ := ob hF
  obtain ⟨v24, hcl, hF⟩ := ob hF
  refine go_SI (r_V (rest := []) (As := [.int v16, .int v20, .int x1]) C0 cb_X6_30 M hrec (tX6_along l D cy ad A hcl) (pre_R C0 M) hl dX6_placeAt_24 rfl (Nat.le_of_ble_eq_true rfl) ⟨rfl, rfl⟩ ⟨Nat.le_of_ble_eq_true rfl, Nat.le_of_ble_eq_true rfl⟩ ⟨Nat.le_of_ble_eq_true rfl, Nat.le_of_ble_eq_true rfl⟩ rfl) ?_
  refine lv_istore_n (lv' := [(3, .int v24), (2, .int v10), (0, .ref (ad x0)), (1, .int x1)]) hx hb dX6_placeAt_27 rfl hl (by decide) rfl (fun ls hl => ?_)
  refine lv_iload_n hx hb dX6_placeAt_28 rfl (lv_at hl 1 rfl) ?_
  refine lv_iload_n hx hb dX6_placeAt_29 rfl (lv_at hl 0 rfl) ?_
  obtain ⟨v30, hcl, hF⟩ := ob hF
  refine go_SI (r_SN (rest := []) (As := [.int v10, .int v24]) C0 cb_X6_34 (tX9_isPlace l D cy ad hcl) (pre_S C0) hl dX6_placeAt_30 rfl (Nat.le_of_ble_eq_true rfl) ⟨rfl, rfl⟩ ⟨Nat.le_of_ble_eq_true rfl, Nat.le_of_ble_eq_true rfl⟩ ⟨Nat.le_of_ble_eq_true rfl, Nat.le_of_ble_eq_true rfl⟩ rfl) ?_
  refine lv_if_eq (tgt := 45) hx hb dX6_placeAt_33 (by decide) (fun hc => ?_) (fun hc => ?_)
  · have hF := oi_t hc hF
    refine lv_bipush (v := (-9 : Int32)) hx hb dX6_placeAt_45 (by decide) ?_
    exact wX6_placeAt_47 ad A C0 M hr hF (lv_sub hl [] rfl)
  · have hF := oi_f hc hF
    refine lv_bipush (v := (12 : Int32)) hx hb dX6_placeAt_36 (by decide) ?_
    refine lv_iload_n hx hb dX6_placeAt_38 rfl (lv_at hl 0 rfl) ?_
    refine lv_imul hx hb dX6_placeAt_39 ?_
    refine lv_iload_n hx hb dX6_placeAt_40 rfl (lv_at hl 1 rfl) ?_
    refine lv_iadd hx hb dX6_placeAt_41 ?_
    refine lv_goto (tgt := 47) hx hb dX6_placeAt_42 (by decide) ?_
    exact wX6_placeAt_47 ad A C0 M hr hF (lv_sub hl [] rfl)
set_option maxHeartbeats 4000000 in
set_option maxRecDepth 100000 in
theorem tX6_placeAt (l : Launch) (D : va_G) (cy : Nat → ClassId) (ad : Nat → Nat) (A : Nat → Prop) {S : MS} {a0 : Nat} {a1 : Int32} {r : Int32} (h : fX6_placeAt S a0 a1 = some r) : Met l yX6_placeAt [Cond.code yX6_placeAt cX6_placeAt 4 (some .int)] rmX6_placeAt (PcR D cy ad A S [.ref (ad a0), .int a1]) (QcS (some (.int r))) 0 0 (fun _ => False) := by
  refine met_R (by decide +kernel) cw_X6_placeAt (Nat.le_of_ble_eq_true rfl) ?_
  intro p e s m args below meth c ls C0 M hr hl
  have hl : lv_has ls 4 [(0, .ref (ad a0)), (1, .int a1)] := hl
  exact wX6_placeAt_0 ad A C0 M hr h hl
set_option maxHeartbeats 4000000 in
set_option maxRecDepth 100000 in
theorem wX8_readingAt_0 {p : Program} {l : Launch} {e : Env} {s : State} {m : MethodId} {args : Array Value} {below : List Frame} {meth : Method} {c : Code} {D : va_G} {cy : Nat → ClassId} (ad : Nat → Nat) (A : Nat → Prop) {S : MS} {r : Int32} {out : ((Nat × Int32 × Int32 × Int32 × Int32 × Int32) ⊕ Int32)} {ls : Array Slot} {x0 : Nat} {x1 : Int32} {x2 : Int32} (C0 : CX p s m args meth c RX8 cX8_readingAt 7 D cy) (M : MW D cy ad A S s.heap) (hr : meth.sig.returnType = some .int) (hF : bX8_readingAt_0 S x0 x1 x2 = some out) (hl : lv_has ls 7 [(0, .ref (ad x0)), (1, .int x1), (2, .int x2)]) (Kr : ∀ r9, out = .inr r9 → r9 = r) (Kh0 : ∀ (y0 : Nat) (y1 : Int32) (y2 : Int32) (y3 : Int32) (y4 : Int32) (y5 : Int32), out = .inl (y0, y1, y2, y3, y4, y5) → ∀ (ls1 : Array Slot), lv_has ls1 7 [(0, .ref (ad y0)), (1, .int y1), (2, .int y2), (3, .int y3), (4, .int y4), (5, .int y5)] → W p l e rmX8_readingAt s m args below meth c s.heap [] 0 0 (MQ below (QcS (some (.int r))) args s 0 0 (fun _ => False)) (F0 m 12 ls1 [])) : W p l e rmX8_readingAt s m args below meth c s.heap [] 0 0 (MQ below (QcS (some (.int r))) args s 0 0 (fun _ => False)) (F0 m 0 ls []) := by
  unfold bX8_readingAt_0 at hF
  obtain ⟨hx, hb, -, hown, -, hts, -⟩ := id C0
  refine lv_iconst (v := (0 : Int32)) hx hb dX8_readingAt_0 (by decide) ?_
  refine lv_istore_n (lv' := [(3, .int (0 : Int32)), (0, .ref (ad x0)), (1, .int x1), (2, .int x2)]) hx hb dX8_readingAt_1 rfl hl (by decide) rfl (fun ls hl => ?_)
  refine lv_aload_n hx hb dX8_readingAt_2 rfl (lv_at hl 1 rfl) ?_
  refine lv_iload_n hx hb dX8_readingAt_3 rfl (lv_at hl 2 rfl) ?_
  obtain ⟨_, hrec, hF⟩ := ob hF
  obtain ⟨v4, hcl, hF⟩ := ob hF
  refine go_SI (r_V (rest := []) (As := [.int x1]) C0 cb_X8_35 M hrec (tX8_countFillings l D cy ad A hcl) (pre_R C0 M) hl dX8_readingAt_4 rfl (Nat.le_of_ble_eq_true rfl) ⟨rfl, rfl⟩ ⟨Nat.le_of_ble_eq_true rfl, Nat.le_of_ble_eq_true rfl⟩ ⟨Nat.le_of_ble_eq_true rfl, Nat.le_of_ble_eq_true rfl⟩ rfl) ?_
  refine lv_istore (lv' := [(4, .int v4), (3, .int (0 : Int32)), (0, .ref (ad x0)), (1, .int x1), (2, .int x2)]) hx hb dX8_readingAt_7 hl (by decide) rfl (fun ls hl => ?_)
  refine lv_iconst (v := (0 : Int32)) hx hb dX8_readingAt_9 (by decide) ?_
  refine lv_istore (lv' := [(5, .int (0 : Int32)), (4, .int v4), (3, .int (0 : Int32)), (0, .ref (ad x0)), (1, .int x1), (2, .int x2)]) hx hb dX8_readingAt_10 hl (by decide) rfl (fun ls hl => ?_)
  exact Kh0 _ _ _ _ _ _ (Option.some.inj hF).symm _ (lv_sub hl [3, 4, 5, 2, 1, 0] rfl)
set_option maxHeartbeats 4000000 in
set_option maxRecDepth 100000 in
theorem wX8_readingAt_46 {p : Program} {l : Launch} {e : Env} {s : State} {m : MethodId} {args : Array Value} {below : List Frame} {meth : Method} {c : Code} {D : va_G} {cy : Nat → ClassId} (ad : Nat → Nat) (A : Nat → Prop) {S : MS} {r : Int32} {out : ((Nat × Int32 × Int32 × Int32 × Int32 × Int32) ⊕ Int32)} {ls : Array Slot} {x0 : Nat} {x1 : Int32} {x2 : Int32} {x3 : Int32} {x4 : Int32} {x5 : Int32} (C0 : CX p s m args meth c RX8 cX8_readingAt 7 D cy) (M : MW D cy ad A S s.heap) (hr : meth.sig.returnType = some .int) (hF : bX8_readingAt_46 S x0 x1 x2 x3 x4 x5 = some out) (hl : lv_has ls 7 [(0, .ref (ad x0)), (1, .int x1), (2, .int x2), (3, .int x3), (4, .int x4), (5, .int x5)]) (Kr : ∀ r9, out = .inr r9 → r9 = r) (Kh0 : ∀ (y0 : Nat) (y1 : Int32) (y2 : Int32) (y3 : Int32) (y4 : Int32) (y5 : Int32), out = .inl (y0, y1, y2, y3, y4, y5) → ∀ (ls1 : Array Slot), lv_has ls1 7 [(0, .ref (ad y0)), (1, .int y1), (2, .int y2), (3, .int y3), (4, .int y4), (5, .int y5)] → W p l e rmX8_readingAt s m args below meth c s.heap [] 0 0 (MQ below (QcS (some (.int r))) args s 0 0 (fun _ => False)) (F0 m 12 ls1 [])) : W p l e rmX8_readingAt s m args below meth c s.heap [] 0 0 (MQ below (QcS (some (.int r))) args s 0 0 (fun _ => False)) (F0 m 46 ls []) := by
  unfold bX8_readingAt_46 at hF
  obtain ⟨hx, hb, -, hown, -, hts, -⟩ := id C0
  obtain ⟨v46, hv, hF⟩ := ob hF
  refine lv_iinc (v := v46) (lv' := [(5, .int v46), (0, .ref (ad x0)), (1, .int x1), (2, .int x2), (3, .int x3), (4, .int x4)]) hx hb dX8_readingAt_46 hl (k := 5) rfl (by rw [← vtI hv]; rfl) (by decide) rfl (fun ls hl => ?_)
  refine lv_goto (tgt := 12) hx hb dX8_readingAt_49 (by decide) ?_
  exact Kh0 _ _ _ _ _ _ (Option.some.inj hF).symm _ (lv_sub hl [1, 2, 3, 4, 5, 0] rfl)
set_option maxHeartbeats 4000000 in
set_option maxRecDepth 100000 in
theorem wX8_readingAt_12 {p : Program} {l : Launch} {e : Env} {s : State} {m : MethodId} {args : Array Value} {below : List Frame} {meth : Method} {c : Code} {D : va_G} {cy : Nat → ClassId} (ad : Nat → Nat) (A : Nat → Prop) {S : MS} {r : Int32} {out : ((Nat × Int32 × Int32 × Int32 × Int32 × Int32) ⊕ Int32)} {ls : Array Slot} {x0 : Nat} {x1 : Int32} {x2 : Int32} {x3 : Int32} {x4 : Int32} {x5 : Int32} (C0 : CX p s m args meth c RX8 cX8_readingAt 7 D cy) (M : MW D cy ad A S s.heap) (hr : meth.sig.returnType = some .int) (hF : bX8_readingAt_12 S x0 x1 x2 x3 x4 x5 = some out) (hl : lv_has ls 7 [(0, .ref (ad x0)), (1, .int x1), (2, .int x2), (3, .int x3), (4, .int x4), (5, .int x5)]) (Kr : ∀ r9, out = .inr r9 → r9 = r) (Kh0 : ∀ (y0 : Nat) (y1 : Int32) (y2 : Int32) (y3 : Int32) (y4 : Int32) (y5 : Int32), out = .inl (y0, y1, y2, y3, y4, y5) → ∀ (ls1 : Array Slot), lv_has ls1 7 [(0, .ref (ad y0)), (1, .int y1), (2, .int y2), (3, .int y3), (4, .int y4), (5, .int y5)] → W p l e rmX8_readingAt s m args below meth c s.heap [] 0 0 (MQ below (QcS (some (.int r))) args s 0 0 (fun _ => False)) (F0 m 12 ls1 [])) : W p l e rmX8_readingAt s m args below meth c s.heap [] 0 0 (MQ below (QcS (some (.int r))) args s 0 0 (fun _ => False)) (F0 m 12 ls []) := by
  unfold bX8_readingAt_12 at hF
  obtain ⟨hx, hb, -, hown, -, hts, -⟩ := id C0
  refine lv_iload hx hb dX8_readingAt_12 (lv_at hl 5 rfl) ?_
  refine lv_iload hx hb dX8_readingAt_14 (lv_at hl 4 rfl) ?_
  refine lv_icmp_ge (tgt := 52) hx hb dX8_readingAt_16 (by decide) (fun hc => ?_) (fun hc => ?_)
  · have hF := oi_t hc hF
    refine lv_bipush (v := (-9 : Int32)) hx hb dX8_readingAt_52 (by decide) ?_
    obtain rfl := (Kr _ (Option.some.inj hF).symm)
    exact rt_SI C0 hr dX8_readingAt_54
  · have hF := oi_f hc hF
    refine lv_aload_n hx hb dX8_readingAt_19 rfl (lv_at hl 0 rfl) ?_
    refine lv_iload_n hx hb dX8_readingAt_20 rfl (lv_at hl 1 rfl) ?_
    refine lv_iload hx hb dX8_readingAt_21 (lv_at hl 5 rfl) ?_
    obtain ⟨_, hrec, hF⟩ := ob hF
    obtain ⟨v23, hcl, hF⟩ := ob hF
    refine go_SI (r_V (rest := []) (As := [.int x1, .int x5]) C0 cb_X8_38 M hrec (tX8_filled l D cy ad A hcl) (pre_R C0 M) hl dX8_readingAt_23 rfl (Nat.le_of_ble_eq_true rfl) ⟨rfl, rfl⟩ ⟨Nat.le_of_ble_eq_true rfl, Nat.le_of_ble_eq_true rfl⟩ ⟨Nat.le_of_ble_eq_true rfl, Nat.le_of_ble_eq_true rfl⟩ rfl) ?_
    refine lv_istore (lv' := [(6, .int v23), (0, .ref (ad x0)), (1, .int x1), (2, .int x2), (3, .int x3), (4, .int x4), (5, .int x5)]) hx hb dX8_readingAt_26 hl (by decide) rfl (fun ls hl => ?_)
    refine lv_iload hx hb dX8_readingAt_28 (lv_at hl 0 rfl) ?_
    refine lv_bipush (v := (-9 : Int32)) hx hb dX8_readingAt_30 (by decide) ?_
    refine lv_icmp_eq (tgt := 46) hx hb dX8_readingAt_32 (by decide) (fun hc => ?_) (fun hc => ?_)
    · have hF := oi_t hc hF
      exact wX8_readingAt_46 ad A C0 M hr hF (lv_sub hl [1, 2, 3, 4, 5, 6] rfl) Kr Kh0
    · have hF := oi_f hc hF
      refine lv_iload_n hx hb dX8_readingAt_35 rfl (lv_at hl 4 rfl) ?_
      refine lv_iload_n hx hb dX8_readingAt_36 rfl (lv_at hl 3 rfl) ?_
      refine lv_icmp_ne (tgt := 43) hx hb dX8_readingAt_37 (by decide) (fun hc => ?_) (fun hc => ?_)
      · have hF := oi_f hc hF
        obtain ⟨v43, hv, hF⟩ := ob hF
        refine lv_iinc (v := v43) (lv' := [(3, .int v43), (6, .int v23), (0, .ref (ad x0)), (1, .int x1), (2, .int x2), (4, .int x4), (5, .int x5)]) hx hb dX8_readingAt_43 hl (k := 4) rfl (by rw [← vtI hv]; rfl) (by decide) rfl (fun ls hl => ?_)
        exact wX8_readingAt_46 ad A C0 M hr hF (lv_sub hl [2, 3, 4, 0, 5, 6] rfl) Kr Kh0
      · have hF := oi_t hc hF
        refine lv_iload hx hb dX8_readingAt_40 (lv_at hl 0 rfl) ?_
        obtain rfl := (Kr _ (Option.some.inj hF).symm)
        exact rt_SI C0 hr dX8_readingAt_42
set_option maxHeartbeats 4000000 in
set_option maxRecDepth 100000 in
theorem tX8_readingAt (l : Launch) (D : va_G) (cy : Nat → ClassId) (ad : Nat → Nat) (A : Nat → Prop) {S : MS} {a0 : Nat} {a1 : Int32} {a2 : Int32} {r : Int32} (h : fX8_readingAt S a0 a1 a2 = some r) : Met l yX8_readingAt [Cond.code yX8_readingAt cX8_readingAt 7 (some .int)] rmX8_readingAt (PcR D cy ad A S [.ref (ad a0), .int a1, .int a2]) (QcS (some (.int r))) 0 0 (fun _ => False) := by
  refine met_R (by decide +kernel) cw_X8_readingAt (Nat.le_of_ble_eq_true rfl) ?_
  intro p e s m args below meth c ls C0 M hr hl
  have hl : lv_has ls 7 [(0, .ref (ad a0)), (1, .int a1), (2, .int a2)] := hl
  have key := lim_walk (step := sX8_readingAt S) (fun (q : (Nat × Int32 × Int32 × Int32 × Int32 × Int32)) (r9 : Int32) => ∀ (r : Int32), r9 = r → ((∀ (y0 : Nat) (y1 : Int32) (y2 : Int32) (y3 : Int32) (y4 : Int32) (y5 : Int32), q = (y0, y1, y2, y3, y4, y5) → ∀ (ls1 : Array Slot), lv_has ls1 7 [(0, .ref (ad y0)), (1, .int y1), (2, .int y2), (3, .int y3), (4, .int y4), (5, .int y5)] → W p l e rmX8_readingAt s m args below meth c s.heap [] 0 0 (MQ below (QcS (some (.int r))) args s 0 0 (fun _ => False)) (F0 m 12 ls1 [])))) ?_
  · unfold fX8_readingAt at h
    cases hs0 : bX8_readingAt_0 S a0 a1 a2 with
    | none => rw [hs0] at h; cases h
    | some out =>
      rw [hs0] at h
      refine wX8_readingAt_0 ad A C0 M hr hs0 hl (fun r9 hr9 => ?_) ?_
      · subst hr9; exact Option.some.inj h
      · intro y0 y1 y2 y3 y4 y5 hq; subst hq; exact (key _ _ h _ rfl) _ _ _ _ _ _ rfl
  · intro q r9 out hst hre hin9
    intro r er; subst er
    refine ?_
    · intro y0 y1 y2 y3 y4 y5 hq ls1 hl
      subst hq
      exact wX8_readingAt_12 ad A C0 M hr hst hl hre (fun k0 k1 k2 k3 k4 k5 hk => (hin9 _ hk _ rfl) _ _ _ _ _ _ rfl)
set_option maxHeartbeats 4000000 in
set_option maxRecDepth 100000 in
theorem wX1_look_0 {p : Program} {l : Launch} {e : Env} {s : State} {m : MethodId} {args : Array Value} {below : List Frame} {meth : Method} {c : Code} {D : va_G} {cy : Nat → ClassId} (ad : Nat → Nat) (A : Nat → Prop) {S : MS} {S' : MS} {H : Heap} {locs : List Loc} {n0 : Nat} {out : ((Nat × Int32 × MS) ⊕ MS)} {ls : Array Slot} {x0 : Nat} (C0 : CX p s m args meth c RX1 cX1_look 3 D cy) (M : ST D cy ad A s.heap (ZN n0 s.heap.size) S H locs) (hr : meth.sig.returnType = none) (hF : bX1_look_0 S x0 = some out) (hl : lv_has ls 3 [(0, .ref (ad x0))]) (Kr : ∀ r9, out = .inr r9 → r9 = S') (Kh0 : ∀ (y0 : Nat) (y1 : Int32) (S2 : MS), out = .inl (y0, y1, S2) → ∀ (H1 : Heap) (locs1 : List Loc) (ls1 : Array Slot), ST D cy ad A s.heap (ZN n0 s.heap.size) S2 H1 locs1 → lv_has ls1 3 [(0, .ref (ad y0)), (1, .int y1)] → W p l e rmX1_look s m args below meth c H1 locs1 0 0 (MQ below (QcM D cy ad A n0 S' (none)) args s 0 0 A) (F0 m 12 ls1 [])) : W p l e rmX1_look s m args below meth c H locs 0 0 (MQ below (QcM D cy ad A n0 S' (none)) args s 0 0 A) (F0 m 0 ls []) := by
  unfold bX1_look_0 at hF
  obtain ⟨hx, hb, -, hown, -, hts, -⟩ := id C0
  refine lv_aload_n hx hb dX1_look_0 rfl (lv_at hl 0 rfl) ?_
  refine lv_iconst (v := (0 : Int32)) hx hb dX1_look_1 (by decide) ?_
  obtain ⟨S2, hv, hF⟩ := ob hF
  refine k_sI C0 M hv fl_X1_38 dX1_look_2 (fun H locs M => ?_)
  refine lv_aload_n hx hb dX1_look_5 rfl (lv_at hl 0 rfl) ?_
  refine lv_iconst (v := (0 : Int32)) hx hb dX1_look_6 (by decide) ?_
  obtain ⟨S7, hv, hF⟩ := ob hF
  refine k_sI C0 M hv fl_X1_41 dX1_look_7 (fun H locs M => ?_)
  refine lv_iconst (v := (0 : Int32)) hx hb dX1_look_10 (by decide) ?_
  refine lv_istore_n (lv' := [(1, .int (0 : Int32)), (0, .ref (ad x0))]) hx hb dX1_look_11 rfl hl (by decide) rfl (fun ls hl => ?_)
  exact Kh0 _ _ _ (Option.some.inj hF).symm _ _ _ M (lv_sub hl [1, 0] rfl)
set_option maxHeartbeats 4000000 in
set_option maxRecDepth 100000 in
theorem wX1_look_152 {p : Program} {l : Launch} {e : Env} {s : State} {m : MethodId} {args : Array Value} {below : List Frame} {meth : Method} {c : Code} {D : va_G} {cy : Nat → ClassId} (ad : Nat → Nat) (A : Nat → Prop) {S : MS} {S' : MS} {H : Heap} {locs : List Loc} {n0 : Nat} {out : ((Nat × Int32 × MS) ⊕ MS)} {ls : Array Slot} {x0 : Nat} {x1 : Int32} (C0 : CX p s m args meth c RX1 cX1_look 3 D cy) (M : ST D cy ad A s.heap (ZN n0 s.heap.size) S H locs) (hr : meth.sig.returnType = none) (hF : bX1_look_152 S x0 x1 = some out) (hl : lv_has ls 3 [(0, .ref (ad x0)), (1, .int x1)]) (Kr : ∀ r9, out = .inr r9 → r9 = S') (Kh0 : ∀ (y0 : Nat) (y1 : Int32) (S2 : MS), out = .inl (y0, y1, S2) → ∀ (H1 : Heap) (locs1 : List Loc) (ls1 : Array Slot), ST D cy ad A s.heap (ZN n0 s.heap.size) S2 H1 locs1 → lv_has ls1 3 [(0, .ref (ad y0)), (1, .int y1)] → W p l e rmX1_look s m args below meth c H1 locs1 0 0 (MQ below (QcM D cy ad A n0 S' (none)) args s 0 0 A) (F0 m 12 ls1 [])) : W p l e rmX1_look s m args below meth c H locs 0 0 (MQ below (QcM D cy ad A n0 S' (none)) args s 0 0 A) (F0 m 152 ls []) := by
  unfold bX1_look_152 at hF
  obtain ⟨hx, hb, -, hown, -, hts, -⟩ := id C0
  obtain ⟨v152, hv, hF⟩ := ob hF
  refine lv_iinc (v := v152) (lv' := [(1, .int v152), (0, .ref (ad x0))]) hx hb dX1_look_152 hl (k := 1) rfl (by rw [← vtI hv]; rfl) (by decide) rfl (fun ls hl => ?_)
  refine lv_goto (tgt := 12) hx hb dX1_look_155 (by decide) ?_
  exact Kh0 _ _ _ (Option.some.inj hF).symm _ _ _ M (lv_sub hl [1, 0] rfl)
set_option maxHeartbeats 4000000 in
set_option maxRecDepth 100000 in
theorem wX1_look_73 {p : Program} {l : Launch} {e : Env} {s : State} {m : MethodId} {args : Array Value} {below : List Frame} {meth : Method} {c : Code} {D : va_G} {cy : Nat → ClassId} (ad : Nat → Nat) (A : Nat → Prop) {S : MS} {S' : MS} {H : Heap} {locs : List Loc} {n0 : Nat} {out : ((Nat × Int32 × MS) ⊕ MS)} {ls : Array Slot} {x0 : Nat} {x1 : Int32} {z0 : Nat} {z1 : Int32} {z2 : Int32} (C0 : CX p s m args meth c RX1 cX1_look 3 D cy) (M : ST D cy ad A s.heap (ZN n0 s.heap.size) S H locs) (hr : meth.sig.returnType = none) (hF : bX1_look_73 S x0 x1 z0 z1 z2 = some out) (hl : lv_has ls 3 [(0, .ref (ad x0)), (1, .int x1)]) (Kr : ∀ r9, out = .inr r9 → r9 = S') (Kh0 : ∀ (y0 : Nat) (y1 : Int32) (S2 : MS), out = .inl (y0, y1, S2) → ∀ (H1 : Heap) (locs1 : List Loc) (ls1 : Array Slot), ST D cy ad A s.heap (ZN n0 s.heap.size) S2 H1 locs1 → lv_has ls1 3 [(0, .ref (ad y0)), (1, .int y1)] → W p l e rmX1_look s m args below meth c H1 locs1 0 0 (MQ below (QcM D cy ad A n0 S' (none)) args s 0 0 A) (F0 m 12 ls1 [])) : W p l e rmX1_look s m args below meth c H locs 0 0 (MQ below (QcM D cy ad A n0 S' (none)) args s 0 0 A) (F0 m 73 ls [.int z2, .int z1, .ref (ad z0)]) := by
  unfold bX1_look_73 at hF
  obtain ⟨hx, hb, -, hown, -, hts, -⟩ := id C0
  obtain ⟨S73, hv, hF⟩ := ob hF
  refine k_st C0 M hv dX1_look_73 (fun H locs M => ?_)
  refine lv_aload_n hx hb dX1_look_74 rfl (lv_at hl 0 rfl) ?_
  obtain ⟨v75, hv, hF⟩ := ob hF
  refine k_getP C0 M.1 hv fl_X1_32 dX1_look_75 ?_
  refine lv_iload_n hx hb dX1_look_78 rfl (lv_at hl 1 rfl) ?_
  obtain ⟨v79, hv, hF⟩ := ob hF
  refine k_ld C0 M.1 hv dX1_look_79 ?_
  refine lv_bipush (v := (-9 : Int32)) hx hb dX1_look_80 (by decide) ?_
  refine lv_icmp_eq (tgt := 152) hx hb dX1_look_82 (by decide) (fun hc => ?_) (fun hc => ?_)
  · have hF := oi_t hc hF
    exact wX1_look_152 ad A C0 M hr hF (lv_sub hl [0, 1] rfl) Kr Kh0
  · have hF := oi_f hc hF
    refine lv_aload_n hx hb dX1_look_85 rfl (lv_at hl 0 rfl) ?_
    refine lv_dup hx hb dX1_look_86 rfl ?_
    obtain ⟨v87, hv, hF⟩ := ob hF
    refine k_getI C0 M.1 hv fl_X1_38 dX1_look_87 ?_
    refine lv_iconst (v := (1 : Int32)) hx hb dX1_look_90 (by decide) ?_
    refine lv_iload_n hx hb dX1_look_91 rfl (lv_at hl 1 rfl) ?_
    refine lv_ishl hx hb dX1_look_92 ?_
    refine lv_ior hx hb dX1_look_93 ?_
    obtain ⟨S94, hv, hF⟩ := ob hF
    refine k_sI C0 M hv fl_X1_38 dX1_look_94 (fun H locs M => ?_)
    refine lv_aload_n hx hb dX1_look_97 rfl (lv_at hl 0 rfl) ?_
    obtain ⟨v98, hv, hF⟩ := ob hF
    refine k_getP C0 M.1 hv fl_X1_18 dX1_look_98 ?_
    refine lv_aload_n hx hb dX1_look_101 rfl (lv_at hl 0 rfl) ?_
    obtain ⟨v102, hv, hF⟩ := ob hF
    refine k_getP C0 M.1 hv fl_X1_32 dX1_look_102 ?_
    refine lv_iload_n hx hb dX1_look_105 rfl (lv_at hl 1 rfl) ?_
    obtain ⟨v106, hv, hF⟩ := ob hF
    refine k_ld C0 M.1 hv dX1_look_106 ?_
    obtain ⟨_, hrec, hF⟩ := ob hF
    obtain ⟨v107, hcl, hF⟩ := ob hF
    refine go_SP (r_V (rest := []) (As := [.int v106]) C0 cb_X1_48 M.1 hrec (tJx4a65c_get_915e3 l D cy ad A hcl) (pre_R C0 M.1) hl dX1_look_107 rfl (Nat.le_of_ble_eq_true rfl) ⟨rfl, rfl⟩ ⟨Nat.le_of_ble_eq_true rfl, Nat.le_of_ble_eq_true rfl⟩ ⟨Nat.le_of_ble_eq_true rfl, Nat.le_of_ble_eq_true rfl⟩ rfl) ?_
    obtain ⟨v110, hv, hF⟩ := ob hF
    refine k_cast (C := RX8) (T := TX8) (N := 6) C0 M.1 hv (by decide) rfl (uw_of 477 (by decide +kernel) rfl) dX1_look_110 ?_
    refine lv_astore_n (lv' := [(2, .ref (ad v110)), (0, .ref (ad x0)), (1, .int x1)]) hx hb dX1_look_113 rfl hl (by decide) rfl (fun ls hl => ?_)
    refine lv_aload_n hx hb dX1_look_114 rfl (lv_at hl 0 rfl) ?_
    obtain ⟨v115, hv, hF⟩ := ob hF
    refine k_getP C0 M.1 hv fl_X1_66 dX1_look_115 ?_
    refine lv_iconst (v := (1 : Int32)) hx hb dX1_look_118 (by decide) ?_
    obtain ⟨v119, hv, hF⟩ := ob hF
    refine k_ld C0 M.1 hv dX1_look_119 ?_
    refine lv_iconst (v := (1 : Int32)) hx hb dX1_look_120 (by decide) ?_
    refine lv_icmp_ne (tgt := 152) hx hb dX1_look_121 (by decide) (fun hc => ?_) (fun hc => ?_)
    · have hF := oi_f hc hF
      exact wX1_look_152 ad A C0 M hr hF (lv_sub hl [1, 2] rfl) Kr Kh0
    · have hF := oi_t hc hF
      refine lv_aload_n hx hb dX1_look_124 rfl (lv_at hl 1 rfl) ?_
      refine lv_dup hx hb dX1_look_125 rfl ?_
      obtain ⟨v126, hv, hF⟩ := ob hF
      refine k_getI C0 M.1 hv fl_X1_41 dX1_look_126 ?_
      refine lv_iconst (v := (1 : Int32)) hx hb dX1_look_129 (by decide) ?_
      refine lv_iload_n hx hb dX1_look_130 rfl (lv_at hl 2 rfl) ?_
      refine lv_ishl hx hb dX1_look_131 ?_
      refine lv_ior hx hb dX1_look_132 ?_
      obtain ⟨S133, hv, hF⟩ := ob hF
      refine k_sI C0 M hv fl_X1_41 dX1_look_133 (fun H locs M => ?_)
      refine lv_aload_n hx hb dX1_look_136 rfl (lv_at hl 1 rfl) ?_
      obtain ⟨v137, hv, hF⟩ := ob hF
      refine k_getP C0 M.1 hv fl_X1_35 dX1_look_137 ?_
      refine lv_iload_n hx hb dX1_look_140 rfl (lv_at hl 2 rfl) ?_
      refine lv_aload_n hx hb dX1_look_141 rfl (lv_at hl 0 rfl) ?_
      refine lv_aload_n hx hb dX1_look_142 rfl (lv_at hl 0 rfl) ?_
      refine lv_iconst (v := (1 : Int32)) hx hb dX1_look_143 (by decide) ?_
      refine lv_iconst (v := (0 : Int32)) hx hb dX1_look_144 (by decide) ?_
      obtain ⟨_, hrec, hF⟩ := ob hF
      obtain ⟨v145, hcl, hF⟩ := ob hF
      refine go_SI (r_V (rest := [.ref (ad v110), .int x1, .ref (ad v137)]) (As := [.int (1 : Int32), .int (0 : Int32)]) C0 cb_X1_69 M.1 hrec (tX8_readingAt l D cy ad A hcl) (pre_R C0 M.1) hl dX1_look_145 rfl (Nat.le_of_ble_eq_true rfl) ⟨rfl, rfl⟩ ⟨Nat.le_of_ble_eq_true rfl, Nat.le_of_ble_eq_true rfl⟩ ⟨Nat.le_of_ble_eq_true rfl, Nat.le_of_ble_eq_true rfl⟩ rfl) ?_
      obtain ⟨_, hrec, hF⟩ := ob hF
      obtain ⟨v148, hcl, hF⟩ := ob hF
      refine go_SI (r_V (rest := [.int x1, .ref (ad v137)]) (As := [.int v145]) C0 cb_X1_73 M.1 hrec (tX8_levelOf l D cy ad A hcl) (pre_R C0 M.1) hl dX1_look_148 rfl (Nat.le_of_ble_eq_true rfl) ⟨rfl, rfl⟩ ⟨Nat.le_of_ble_eq_true rfl, Nat.le_of_ble_eq_true rfl⟩ ⟨Nat.le_of_ble_eq_true rfl, Nat.le_of_ble_eq_true rfl⟩ rfl) ?_
      obtain ⟨S151, hv, hF⟩ := ob hF
      refine k_st C0 M hv dX1_look_151 (fun H locs M => ?_)
      exact wX1_look_152 ad A C0 M hr hF (lv_sub hl [1, 2] rfl) Kr Kh0
set_option maxHeartbeats 4000000 in
set_option maxRecDepth 100000 in
theorem wX1_look_12 {p : Program} {l : Launch} {e : Env} {s : State} {m : MethodId} {args : Array Value} {below : List Frame} {meth : Method} {c : Code} {D : va_G} {cy : Nat → ClassId} (ad : Nat → Nat) (A : Nat → Prop) {S : MS} {S' : MS} {H : Heap} {locs : List Loc} {n0 : Nat} {out : ((Nat × Int32 × MS) ⊕ MS)} {ls : Array Slot} {x0 : Nat} {x1 : Int32} (C0 : CX p s m args meth c RX1 cX1_look 3 D cy) (M : ST D cy ad A s.heap (ZN n0 s.heap.size) S H locs) (hr : meth.sig.returnType = none) (hF : bX1_look_12 S x0 x1 = some out) (hl : lv_has ls 3 [(0, .ref (ad x0)), (1, .int x1)]) (Kr : ∀ r9, out = .inr r9 → r9 = S') (Kh0 : ∀ (y0 : Nat) (y1 : Int32) (S2 : MS), out = .inl (y0, y1, S2) → ∀ (H1 : Heap) (locs1 : List Loc) (ls1 : Array Slot), ST D cy ad A s.heap (ZN n0 s.heap.size) S2 H1 locs1 → lv_has ls1 3 [(0, .ref (ad y0)), (1, .int y1)] → W p l e rmX1_look s m args below meth c H1 locs1 0 0 (MQ below (QcM D cy ad A n0 S' (none)) args s 0 0 A) (F0 m 12 ls1 [])) : W p l e rmX1_look s m args below meth c H locs 0 0 (MQ below (QcM D cy ad A n0 S' (none)) args s 0 0 A) (F0 m 12 ls []) := by
  unfold bX1_look_12 at hF
  obtain ⟨hx, hb, -, hown, -, hts, -⟩ := id C0
  refine lv_iload_n hx hb dX1_look_12 rfl (lv_at hl 1 rfl) ?_
  refine lv_aload_n hx hb dX1_look_13 rfl (lv_at hl 0 rfl) ?_
  obtain ⟨v14, hv, hF⟩ := ob hF
  refine k_getP C0 M.1 hv fl_X1_12 dX1_look_14 ?_
  obtain ⟨_, hrec, hF⟩ := ob hF
  obtain ⟨v17, hcl, hF⟩ := ob hF
  refine go_SI (r_V (rest := [.int x1]) (As := []) C0 cb_X1_44 M.1 hrec (tJx4a65c_size_8abf5 l D cy ad A hcl) (pre_R C0 M.1) hl dX1_look_17 rfl (Nat.le_of_ble_eq_true rfl) ⟨rfl, rfl⟩ ⟨Nat.le_of_ble_eq_true rfl, Nat.le_of_ble_eq_true rfl⟩ ⟨Nat.le_of_ble_eq_true rfl, Nat.le_of_ble_eq_true rfl⟩ rfl) ?_
  refine lv_icmp_ge (tgt := 158) hx hb dX1_look_20 (by decide) (fun hc => ?_) (fun hc => ?_)
  · have hF := oi_t hc hF
    obtain rfl := (Kr _ (Option.some.inj hF).symm)
    exact rt_MV C0 M hr dX1_look_158
  · have hF := oi_f hc hF
    refine lv_aload_n hx hb dX1_look_23 rfl (lv_at hl 0 rfl) ?_
    obtain ⟨v24, hv, hF⟩ := ob hF
    refine k_getP C0 M.1 hv fl_X1_28 dX1_look_24 ?_
    refine lv_iload_n hx hb dX1_look_27 rfl (lv_at hl 1 rfl) ?_
    refine lv_aload_n hx hb dX1_look_28 rfl (lv_at hl 0 rfl) ?_
    obtain ⟨v29, hv, hF⟩ := ob hF
    refine k_getP C0 M.1 hv fl_X1_12 dX1_look_29 ?_
    refine lv_iload_n hx hb dX1_look_32 rfl (lv_at hl 1 rfl) ?_
    obtain ⟨_, hrec, hF⟩ := ob hF
    obtain ⟨v33, hcl, hF⟩ := ob hF
    refine go_SP (r_V (rest := [.int x1, .ref (ad v24)]) (As := [.int x1]) C0 cb_X1_48 M.1 hrec (tJx4a65c_get_915e3 l D cy ad A hcl) (pre_R C0 M.1) hl dX1_look_33 rfl (Nat.le_of_ble_eq_true rfl) ⟨rfl, rfl⟩ ⟨Nat.le_of_ble_eq_true rfl, Nat.le_of_ble_eq_true rfl⟩ ⟨Nat.le_of_ble_eq_true rfl, Nat.le_of_ble_eq_true rfl⟩ rfl) ?_
    obtain ⟨v36, hv, hF⟩ := ob hF
    refine k_cast (C := RX6) (T := TX6) (N := 6) C0 M.1 hv (by decide) rfl (uw_of 457 (by decide +kernel) rfl) dX1_look_36 ?_
    refine lv_aload_n hx hb dX1_look_39 rfl (lv_at hl 0 rfl) ?_
    obtain ⟨v40, hv, hF⟩ := ob hF
    refine k_getI C0 M.1 hv fl_X1_21 dX1_look_40 ?_
    obtain ⟨_, hrec, hF⟩ := ob hF
    obtain ⟨v43, hcl, hF⟩ := ob hF
    refine go_SI (r_V (rest := [.int x1, .ref (ad v24)]) (As := [.int v40]) C0 cb_X1_59 M.1 hrec (tX6_placeAt l D cy ad A hcl) (pre_R C0 M.1) hl dX1_look_43 rfl (Nat.le_of_ble_eq_true rfl) ⟨rfl, rfl⟩ ⟨Nat.le_of_ble_eq_true rfl, Nat.le_of_ble_eq_true rfl⟩ ⟨Nat.le_of_ble_eq_true rfl, Nat.le_of_ble_eq_true rfl⟩ rfl) ?_
    obtain ⟨S46, hv, hF⟩ := ob hF
    refine k_st C0 M hv dX1_look_46 (fun H locs M => ?_)
    refine lv_aload_n hx hb dX1_look_47 rfl (lv_at hl 0 rfl) ?_
    obtain ⟨v48, hv, hF⟩ := ob hF
    refine k_getP C0 M.1 hv fl_X1_32 dX1_look_48 ?_
    refine lv_iload_n hx hb dX1_look_51 rfl (lv_at hl 1 rfl) ?_
    refine lv_aload_n hx hb dX1_look_52 rfl (lv_at hl 0 rfl) ?_
    obtain ⟨v53, hv, hF⟩ := ob hF
    refine k_getP C0 M.1 hv fl_X1_28 dX1_look_53 ?_
    refine lv_iload_n hx hb dX1_look_56 rfl (lv_at hl 1 rfl) ?_
    obtain ⟨v57, hv, hF⟩ := ob hF
    refine k_ld C0 M.1 hv dX1_look_57 ?_
    refine lv_bipush (v := (-9 : Int32)) hx hb dX1_look_58 (by decide) ?_
    refine lv_icmp_ne (tgt := 68) hx hb dX1_look_60 (by decide) (fun hc => ?_) (fun hc => ?_)
    · have hF := oi_f hc hF
      refine lv_aload_n hx hb dX1_look_68 rfl (lv_at hl 0 rfl) ?_
      refine lv_iload_n hx hb dX1_look_69 rfl (lv_at hl 1 rfl) ?_
      obtain ⟨_, hrec, hF⟩ := ob hF
      obtain ⟨v70, hcl, hF⟩ := ob hF
      refine go_SI (r_V (rest := [.int x1, .ref (ad v48)]) (As := [.int x1]) C0 cb_X1_63 M.1 hrec (tX1_latestReadable l D cy ad A hcl) (pre_R C0 M.1) hl dX1_look_70 rfl (Nat.le_of_ble_eq_true rfl) ⟨rfl, rfl⟩ ⟨Nat.le_of_ble_eq_true rfl, Nat.le_of_ble_eq_true rfl⟩ ⟨Nat.le_of_ble_eq_true rfl, Nat.le_of_ble_eq_true rfl⟩ rfl) ?_
      exact wX1_look_73 ad A C0 M hr hF (lv_sub hl [0, 1] rfl) Kr Kh0
    · have hF := oi_t hc hF
      refine lv_bipush (v := (-9 : Int32)) hx hb dX1_look_63 (by decide) ?_
      refine lv_goto (tgt := 73) hx hb dX1_look_65 (by decide) ?_
      exact wX1_look_73 ad A C0 M hr hF (lv_sub hl [0, 1] rfl) Kr Kh0
set_option maxHeartbeats 4000000 in
set_option maxRecDepth 100000 in
theorem tX1_look (l : Launch) (D : va_G) (cy : Nat → ClassId) (ad : Nat → Nat) (A : Nat → Prop) {S S' : MS} {a0 : Nat} (h : fX1_look S a0 = some S') : Met l yX1_look [Cond.code yX1_look cX1_look 3 (none)] rmX1_look (PcR D cy ad A S [.ref (ad a0)]) (QcM D cy ad A (m_n S) S' (none)) 0 0 A := by
  refine met_M (by decide +kernel) cw_X1_look (Nat.le_of_ble_eq_true rfl) ?_
  intro p e s m args below meth c ls C0 M hr hin hl
  have hl : lv_has ls 3 [(0, .ref (ad a0))] := hl
  have key := lim_walk (step := sX1_look) (fun (q : (Nat × Int32 × MS)) (r9 : MS) => ∀ (S' : MS), r9 = S' → ((∀ (y0 : Nat) (y1 : Int32) (S2 : MS), q = (y0, y1, S2) → ∀ (H1 : Heap) (locs1 : List Loc) (ls1 : Array Slot), ST D cy ad A s.heap (ZN (m_n S) s.heap.size) S2 H1 locs1 → lv_has ls1 3 [(0, .ref (ad y0)), (1, .int y1)] → W p l e rmX1_look s m args below meth c H1 locs1 0 0 (MQ below (QcM D cy ad A (m_n S) S' (none)) args s 0 0 A) (F0 m 12 ls1 [])))) ?_
  · unfold fX1_look at h
    cases hs0 : bX1_look_0 S a0 with
    | none => rw [hs0] at h; cases h
    | some out =>
      rw [hs0] at h
      refine wX1_look_0 ad A C0 M hr hs0 hl (fun r9 hr9 => ?_) ?_
      · subst hr9; exact Option.some.inj h
      · intro y0 y1 y2 hq; subst hq; exact (key _ _ h _ rfl) _ _ _ rfl
  · intro q r9 out hst hre hin9
    intro S' er; subst er
    refine ?_
    · intro y0 y1 y2 hq H1 locs1 ls1 M hl
      subst hq
      exact wX1_look_12 ad A C0 M hr hst hl hre (fun k0 k1 k2 hk => (hin9 _ hk _ rfl) _ _ _ rfl)
set_option maxHeartbeats 4000000 in
set_option maxRecDepth 100000 in
theorem wX9_lookAgain_0 {p : Program} {l : Launch} {e : Env} {s : State} {m : MethodId} {args : Array Value} {below : List Frame} {meth : Method} {c : Code} {D : va_G} {cy : Nat → ClassId} (ad : Nat → Nat) (A : Nat → Prop) {S : MS} {S' : MS} {H : Heap} {locs : List Loc} {n0 : Nat} {ls : Array Slot} {x0 : Nat} (C0 : CX p s m args meth c RX9 cX9_lookAgain 1 D cy) (M : ST D cy ad A s.heap (ZN n0 s.heap.size) S H locs) (hr : meth.sig.returnType = none) (hF : bX9_lookAgain_0 S x0 = some S') (hl : lv_has ls 1 [(0, .ref (ad x0))]) : W p l e rmX9_lookAgain s m args below meth c H locs 0 0 (MQ below (QcM D cy ad A n0 S' (none)) args s 0 0 A) (F0 m 0 ls []) := by
  unfold bX9_lookAgain_0 at hF
  obtain ⟨hx, hb, -, hown, -, hts, -⟩ := id C0
  refine lv_aload_n hx hb dX9_lookAgain_0 rfl (lv_at hl 0 rfl) ?_
  obtain ⟨v1, hv, hF⟩ := ob hF
  refine k_getP C0 M.1 hv fl_X9_12 dX9_lookAgain_1 ?_
  obtain ⟨_, hrec, hF⟩ := ob hF
  obtain ⟨S4, hcl, hF⟩ := ob hF
  refine go_MV (r_V (rest := []) (As := []) C0 cb_X9_375 M.1 hrec (tX1_look l D cy ad A hcl) (pre_R C0 M.1) hl dX9_lookAgain_4 rfl (Nat.le_of_ble_eq_true rfl) ⟨rfl, rfl⟩ ⟨Nat.le_of_ble_eq_true rfl, Nat.le_of_ble_eq_true rfl⟩ ⟨Nat.le_of_ble_eq_true rfl, Nat.le_of_ble_eq_true rfl⟩ rfl) M (fun H locs M => ?_)
  refine lv_aload_n hx hb dX9_lookAgain_7 rfl (lv_at hl 0 rfl) ?_
  refine lv_iconst (v := (1 : Int32)) hx hb dX9_lookAgain_8 (by decide) ?_
  have hz : o_zb (1 : Int32) = some (1 : Int32) := rfl
  obtain ⟨S9, hv, hF⟩ := ob hF
  refine k_sZ C0 M hz hv fl_X9_25 dX9_lookAgain_9 (fun H locs M => ?_)
  obtain rfl := (Option.some.inj hF)
  exact rt_MV C0 M hr dX9_lookAgain_12
set_option maxHeartbeats 4000000 in
set_option maxRecDepth 100000 in
theorem tX9_lookAgain (l : Launch) (D : va_G) (cy : Nat → ClassId) (ad : Nat → Nat) (A : Nat → Prop) {S S' : MS} {a0 : Nat} (h : fX9_lookAgain S a0 = some S') : Met l yX9_lookAgain [Cond.code yX9_lookAgain cX9_lookAgain 1 (none)] rmX9_lookAgain (PcR D cy ad A S [.ref (ad a0)]) (QcM D cy ad A (m_n S) S' (none)) 0 0 A := by
  refine met_M (by decide +kernel) cw_X9_lookAgain (Nat.le_of_ble_eq_true rfl) ?_
  intro p e s m args below meth c ls C0 M hr hin hl
  have hl : lv_has ls 1 [(0, .ref (ad a0))] := hl
  exact wX9_lookAgain_0 ad A C0 M hr h hl
set_option maxHeartbeats 4000000 in
set_option maxRecDepth 100000 in
theorem wX7_drop_0 {p : Program} {l : Launch} {e : Env} {s : State} {m : MethodId} {args : Array Value} {below : List Frame} {meth : Method} {c : Code} {D : va_G} {cy : Nat → ClassId} (ad : Nat → Nat) (A : Nat → Prop) {S : MS} {S' : MS} {H : Heap} {locs : List Loc} {n0 : Nat} {ls : Array Slot} {x0 : Nat} (C0 : CX p s m args meth c RX7 cX7_drop 1 D cy) (M : ST D cy ad A s.heap (ZN n0 s.heap.size) S H locs) (hr : meth.sig.returnType = none) (hF : bX7_drop_0 S x0 = some S') (hl : lv_has ls 1 [(0, .ref (ad x0))]) : W p l e rmX7_drop s m args below meth c H locs 0 0 (MQ below (QcM D cy ad A n0 S' (none)) args s 0 0 A) (F0 m 0 ls []) := by
  unfold bX7_drop_0 at hF
  obtain ⟨hx, hb, -, hown, -, hts, -⟩ := id C0
  refine lv_aload_n hx hb dX7_drop_0 rfl (lv_at hl 0 rfl) ?_
  refine lv_iconst (v := (-1 : Int32)) hx hb dX7_drop_1 (by decide) ?_
  obtain ⟨S2, hv, hF⟩ := ob hF
  refine k_sI C0 M hv fl_X7_11 dX7_drop_2 (fun H locs M => ?_)
  refine lv_aload_n hx hb dX7_drop_5 rfl (lv_at hl 0 rfl) ?_
  refine lv_iconst (v := (0 : Int32)) hx hb dX7_drop_6 (by decide) ?_
  obtain ⟨S7, hv, hF⟩ := ob hF
  refine k_sI C0 M hv fl_X7_15 dX7_drop_7 (fun H locs M => ?_)
  obtain rfl := (Option.some.inj hF)
  exact rt_MV C0 M hr dX7_drop_10
set_option maxHeartbeats 4000000 in
set_option maxRecDepth 100000 in
theorem tX7_drop (l : Launch) (D : va_G) (cy : Nat → ClassId) (ad : Nat → Nat) (A : Nat → Prop) {S S' : MS} {a0 : Nat} (h : fX7_drop S a0 = some S') : Met l yX7_drop [Cond.code yX7_drop cX7_drop 1 (none)] rmX7_drop (PcR D cy ad A S [.ref (ad a0)]) (QcM D cy ad A (m_n S) S' (none)) 0 0 A := by
  refine met_M (by decide +kernel) cw_X7_drop (Nat.le_of_ble_eq_true rfl) ?_
  intro p e s m args below meth c ls C0 M hr hin hl
  have hl : lv_has ls 1 [(0, .ref (ad a0))] := hl
  exact wX7_drop_0 ad A C0 M hr h hl
set_option maxHeartbeats 4000000 in
set_option maxRecDepth 100000 in
theorem wX9_lose_0 {p : Program} {l : Launch} {e : Env} {s : State} {m : MethodId} {args : Array Value} {below : List Frame} {meth : Method} {c : Code} {D : va_G} {cy : Nat → ClassId} (ad : Nat → Nat) (A : Nat → Prop) {S : MS} {S' : MS} {H : Heap} {locs : List Loc} {n0 : Nat} {r : Int32} {ls : Array Slot} {x0 : Nat} {x1 : Int32} (C0 : CX p s m args meth c RX9 cX9_lose 2 D cy) (M : ST D cy ad A s.heap (ZN n0 s.heap.size) S H locs) (hr : meth.sig.returnType = some .int) (hF : bX9_lose_0 S x0 x1 = some (r, S')) (hl : lv_has ls 2 [(0, .ref (ad x0)), (1, .int x1)]) : W p l e rmX9_lose s m args below meth c H locs 0 0 (MQ below (QcM D cy ad A n0 S' (some (.int r))) args s 0 0 A) (F0 m 0 ls []) := by
  unfold bX9_lose_0 at hF
  obtain ⟨hx, hb, -, hown, -, hts, -⟩ := id C0
  refine lv_iload_n hx hb dX9_lose_0 rfl (lv_at hl 1 rfl) ?_
  obtain ⟨v1, hcl, hF⟩ := ob hF
  refine go_SI (r_S (rest := []) (As := [.int x1]) C0 cb_X9_150 (tX9_isSheet l D cy ad hcl) (pre_S C0) hl dX9_lose_1 rfl (Nat.le_of_ble_eq_true rfl) ⟨rfl, rfl⟩ ⟨Nat.le_of_ble_eq_true rfl, Nat.le_of_ble_eq_true rfl⟩ ⟨Nat.le_of_ble_eq_true rfl, Nat.le_of_ble_eq_true rfl⟩ rfl) ?_
  refine lv_if_ne (tgt := 9) hx hb dX9_lose_4 (by decide) (fun hc => ?_) (fun hc => ?_)
  · have hF := oi_f hc hF
    refine lv_aload_n hx hb dX9_lose_9 rfl (lv_at hl 0 rfl) ?_
    obtain ⟨v10, hv, hF⟩ := ob hF
    refine k_getP C0 M.1 hv fl_X9_67 dX9_lose_10 ?_
    refine lv_iload_n hx hb dX9_lose_13 rfl (lv_at hl 1 rfl) ?_
    obtain ⟨v14, hv, hF⟩ := ob hF
    refine k_ldP (ty := (.object "ChartRoom$Sheet")) 2 C0 M.1 (by decide) rfl rfl hv dX9_lose_14 ?_
    obtain ⟨_, hrec, hF⟩ := ob hF
    obtain ⟨v15, hcl, hF⟩ := ob hF
    refine go_SI (r_V (rest := []) (As := []) C0 cb_X9_341 M.1 hrec (tX7_isEmpty l D cy ad A hcl) (pre_R C0 M.1) hl dX9_lose_15 rfl (Nat.le_of_ble_eq_true rfl) ⟨rfl, rfl⟩ ⟨Nat.le_of_ble_eq_true rfl, Nat.le_of_ble_eq_true rfl⟩ ⟨Nat.le_of_ble_eq_true rfl, Nat.le_of_ble_eq_true rfl⟩ rfl) ?_
    refine lv_if_eq (tgt := 23) hx hb dX9_lose_18 (by decide) (fun hc => ?_) (fun hc => ?_)
    · have hF := oi_t hc hF
      refine lv_aload_n hx hb dX9_lose_23 rfl (lv_at hl 0 rfl) ?_
      obtain ⟨v24, hv, hF⟩ := ob hF
      refine k_getP C0 M.1 hv fl_X9_67 dX9_lose_24 ?_
      refine lv_iload_n hx hb dX9_lose_27 rfl (lv_at hl 1 rfl) ?_
      obtain ⟨v28, hv, hF⟩ := ob hF
      refine k_ldP (ty := (.object "ChartRoom$Sheet")) 2 C0 M.1 (by decide) rfl rfl hv dX9_lose_28 ?_
      obtain ⟨_, hrec, hF⟩ := ob hF
      obtain ⟨S29, hcl, hF⟩ := ob hF
      refine go_MV (r_V (rest := []) (As := []) C0 cb_X9_345 M.1 hrec (tX7_drop l D cy ad A hcl) (pre_R C0 M.1) hl dX9_lose_29 rfl (Nat.le_of_ble_eq_true rfl) ⟨rfl, rfl⟩ ⟨Nat.le_of_ble_eq_true rfl, Nat.le_of_ble_eq_true rfl⟩ ⟨Nat.le_of_ble_eq_true rfl, Nat.le_of_ble_eq_true rfl⟩ rfl) M (fun H locs M => ?_)
      refine lv_iconst (v := (1 : Int32)) hx hb dX9_lose_32 (by decide) ?_
      obtain ⟨rfl, rfl⟩ := Prod.mk.inj (Option.some.inj hF)
      exact rt_MI C0 M hr dX9_lose_33
    · have hF := oi_f hc hF
      refine lv_iconst (v := (0 : Int32)) hx hb dX9_lose_21 (by decide) ?_
      obtain ⟨rfl, rfl⟩ := Prod.mk.inj (Option.some.inj hF)
      exact rt_MI C0 M hr dX9_lose_22
  · have hF := oi_t hc hF
    refine lv_iconst (v := (-1 : Int32)) hx hb dX9_lose_7 (by decide) ?_
    obtain ⟨rfl, rfl⟩ := Prod.mk.inj (Option.some.inj hF)
    exact rt_MI C0 M hr dX9_lose_8
set_option maxHeartbeats 4000000 in
set_option maxRecDepth 100000 in
theorem tX9_lose (l : Launch) (D : va_G) (cy : Nat → ClassId) (ad : Nat → Nat) (A : Nat → Prop) {S S' : MS} {a0 : Nat} {a1 : Int32} {r : Int32} (h : fX9_lose S a0 a1 = some (r, S')) : Met l yX9_lose [Cond.code yX9_lose cX9_lose 2 (some .int)] rmX9_lose (PcR D cy ad A S [.ref (ad a0), .int a1]) (QcM D cy ad A (m_n S) S' (some (.int r))) 0 0 A := by
  refine met_M (by decide +kernel) cw_X9_lose (Nat.le_of_ble_eq_true rfl) ?_
  intro p e s m args below meth c ls C0 M hr hin hl
  have hl : lv_has ls 2 [(0, .ref (ad a0)), (1, .int a1)] := hl
  exact wX9_lose_0 ad A C0 M hr h hl
set_option maxHeartbeats 4000000 in
set_option maxRecDepth 100000 in
theorem wX9_many_0 {p : Program} {l : Launch} {e : Env} {s : State} {m : MethodId} {args : Array Value} {below : List Frame} {meth : Method} {c : Code} {D : va_G} {cy : Nat → ClassId} (ad : Nat → Nat) (A : Nat → Prop) {S : MS} {r : Int32} {ls : Array Slot} {x0 : Nat} {x1 : Int32} (C0 : CX p s m args meth c RX9 cX9_many 2 D cy) (M : MW D cy ad A S s.heap) (hr : meth.sig.returnType = some .int) (hF : bX9_many_0 S x0 x1 = some r) (hl : lv_has ls 2 [(0, .ref (ad x0)), (1, .int x1)]) : W p l e rmX9_many s m args below meth c s.heap [] 0 0 (MQ below (QcS (some (.int r))) args s 0 0 (fun _ => False)) (F0 m 0 ls []) := by
  unfold bX9_many_0 at hF
  obtain ⟨hx, hb, -, hown, -, hts, -⟩ := id C0
  refine lv_iload_n hx hb dX9_many_0 rfl (lv_at hl 1 rfl) ?_
  by_cases hc0 : x1 = (0 : Int32)
  · have hF := oi_t hc0 hF
    refine lv_tableIn (tgt := 52) (off := 51) hx hb dX9_many_1 (by rw [hc0]; decide) (by rw [hc0]; decide) (by rw [hc0]; rfl) (by decide) ?_
    refine lv_aload_n hx hb dX9_many_52 rfl (lv_at hl 0 rfl) ?_
    obtain ⟨v53, hv, hF⟩ := ob hF
    refine k_getP C0 M hv fl_X9_12 dX9_many_53 ?_
    obtain ⟨v56, hv, hF⟩ := ob hF
    refine k_getP C0 M hv fl_X9_90 dX9_many_56 ?_
    obtain ⟨_, hrec, hF⟩ := ob hF
    obtain ⟨v59, hcl, hF⟩ := ob hF
    refine go_SI (r_V (rest := []) (As := []) C0 cb_X9_93 M hrec (tJx4a65c_size_8abf5 l D cy ad A hcl) (pre_R C0 M) hl dX9_many_59 rfl (Nat.le_of_ble_eq_true rfl) ⟨rfl, rfl⟩ ⟨Nat.le_of_ble_eq_true rfl, Nat.le_of_ble_eq_true rfl⟩ ⟨Nat.le_of_ble_eq_true rfl, Nat.le_of_ble_eq_true rfl⟩ rfl) ?_
    obtain rfl := (Option.some.inj hF)
    exact rt_SI C0 hr dX9_many_62
  have hF := oi_f hc0 hF
  by_cases hc1 : x1 = (1 : Int32)
  · have hF := oi_t hc1 hF
    refine lv_tableIn (tgt := 63) (off := 62) hx hb dX9_many_1 (by rw [hc1]; decide) (by rw [hc1]; decide) (by rw [hc1]; rfl) (by decide) ?_
    refine lv_aload_n hx hb dX9_many_63 rfl (lv_at hl 0 rfl) ?_
    obtain ⟨v64, hv, hF⟩ := ob hF
    refine k_getP C0 M hv fl_X9_12 dX9_many_64 ?_
    obtain ⟨v67, hv, hF⟩ := ob hF
    refine k_getP C0 M hv fl_X9_165 dX9_many_67 ?_
    obtain ⟨_, hrec, hF⟩ := ob hF
    obtain ⟨v70, hcl, hF⟩ := ob hF
    refine go_SI (r_V (rest := []) (As := []) C0 cb_X9_93 M hrec (tJx4a65c_size_8abf5 l D cy ad A hcl) (pre_R C0 M) hl dX9_many_70 rfl (Nat.le_of_ble_eq_true rfl) ⟨rfl, rfl⟩ ⟨Nat.le_of_ble_eq_true rfl, Nat.le_of_ble_eq_true rfl⟩ ⟨Nat.le_of_ble_eq_true rfl, Nat.le_of_ble_eq_true rfl⟩ rfl) ?_
    obtain rfl := (Option.some.inj hF)
    exact rt_SI C0 hr dX9_many_73
  have hF := oi_f hc1 hF
  by_cases hc2 : x1 = (2 : Int32)
  · have hF := oi_t hc2 hF
    refine lv_tableIn (tgt := 74) (off := 73) hx hb dX9_many_1 (by rw [hc2]; decide) (by rw [hc2]; decide) (by rw [hc2]; rfl) (by decide) ?_
    refine lv_aload_n hx hb dX9_many_74 rfl (lv_at hl 0 rfl) ?_
    obtain ⟨v75, hv, hF⟩ := ob hF
    refine k_getP C0 M hv fl_X9_12 dX9_many_75 ?_
    obtain ⟨v78, hv, hF⟩ := ob hF
    refine k_getI C0 M hv fl_X9_205 dX9_many_78 ?_
    obtain ⟨v81, hcl, hF⟩ := ob hF
    refine go_SI (r_S (rest := []) (As := [.int v78]) C0 cb_X9_208 (tJ6_bitCount_0f7a4 l D cy ad hcl) (pre_S C0) hl dX9_many_81 rfl (Nat.le_of_ble_eq_true rfl) ⟨rfl, rfl⟩ ⟨Nat.le_of_ble_eq_true rfl, Nat.le_of_ble_eq_true rfl⟩ ⟨Nat.le_of_ble_eq_true rfl, Nat.le_of_ble_eq_true rfl⟩ rfl) ?_
    obtain rfl := (Option.some.inj hF)
    exact rt_SI C0 hr dX9_many_84
  have hF := oi_f hc2 hF
  by_cases hc3 : x1 = (3 : Int32)
  · have hF := oi_t hc3 hF
    refine lv_tableIn (tgt := 85) (off := 84) hx hb dX9_many_1 (by rw [hc3]; decide) (by rw [hc3]; decide) (by rw [hc3]; rfl) (by decide) ?_
    refine lv_aload_n hx hb dX9_many_85 rfl (lv_at hl 0 rfl) ?_
    obtain ⟨v86, hv, hF⟩ := ob hF
    refine k_getP C0 M hv fl_X9_32 dX9_many_86 ?_
    obtain ⟨_, hrec, hF⟩ := ob hF
    obtain ⟨v89, hcl, hF⟩ := ob hF
    refine go_SI (r_V (rest := []) (As := []) C0 cb_X9_93 M hrec (tJx4a65c_size_8abf5 l D cy ad A hcl) (pre_R C0 M) hl dX9_many_89 rfl (Nat.le_of_ble_eq_true rfl) ⟨rfl, rfl⟩ ⟨Nat.le_of_ble_eq_true rfl, Nat.le_of_ble_eq_true rfl⟩ ⟨Nat.le_of_ble_eq_true rfl, Nat.le_of_ble_eq_true rfl⟩ rfl) ?_
    obtain rfl := (Option.some.inj hF)
    exact rt_SI C0 hr dX9_many_92
  have hF := oi_f hc3 hF
  by_cases hc4 : x1 = (4 : Int32)
  · have hF := oi_t hc4 hF
    refine lv_tableIn (tgt := 93) (off := 92) hx hb dX9_many_1 (by rw [hc4]; decide) (by rw [hc4]; decide) (by rw [hc4]; rfl) (by decide) ?_
    refine lv_aload_n hx hb dX9_many_93 rfl (lv_at hl 0 rfl) ?_
    obtain ⟨v94, hv, hF⟩ := ob hF
    refine k_getP C0 M hv fl_X9_36 dX9_many_94 ?_
    obtain ⟨_, hrec, hF⟩ := ob hF
    obtain ⟨v97, hcl, hF⟩ := ob hF
    refine go_SI (r_V (rest := []) (As := []) C0 cb_X9_93 M hrec (tJx4a65c_size_8abf5 l D cy ad A hcl) (pre_R C0 M) hl dX9_many_97 rfl (Nat.le_of_ble_eq_true rfl) ⟨rfl, rfl⟩ ⟨Nat.le_of_ble_eq_true rfl, Nat.le_of_ble_eq_true rfl⟩ ⟨Nat.le_of_ble_eq_true rfl, Nat.le_of_ble_eq_true rfl⟩ rfl) ?_
    obtain rfl := (Option.some.inj hF)
    exact rt_SI C0 hr dX9_many_100
  have hF := oi_f hc4 hF
  by_cases hc5 : x1 = (5 : Int32)
  · have hF := oi_t hc5 hF
    refine lv_tableIn (tgt := 101) (off := 100) hx hb dX9_many_1 (by rw [hc5]; decide) (by rw [hc5]; decide) (by rw [hc5]; rfl) (by decide) ?_
    refine lv_aload_n hx hb dX9_many_101 rfl (lv_at hl 0 rfl) ?_
    obtain ⟨v102, hv, hF⟩ := ob hF
    refine k_getP C0 M hv fl_X9_62 dX9_many_102 ?_
    obtain ⟨_, hrec, hF⟩ := ob hF
    obtain ⟨v105, hcl, hF⟩ := ob hF
    refine go_SI (r_V (rest := []) (As := []) C0 cb_X9_93 M hrec (tJx4a65c_size_8abf5 l D cy ad A hcl) (pre_R C0 M) hl dX9_many_105 rfl (Nat.le_of_ble_eq_true rfl) ⟨rfl, rfl⟩ ⟨Nat.le_of_ble_eq_true rfl, Nat.le_of_ble_eq_true rfl⟩ ⟨Nat.le_of_ble_eq_true rfl, Nat.le_of_ble_eq_true rfl⟩ rfl) ?_
    obtain rfl := (Option.some.inj hF)
    exact rt_SI C0 hr dX9_many_108
  have hF := oi_f hc5 hF
  by_cases hc6 : x1 = (6 : Int32)
  · have hF := oi_t hc6 hF
    refine lv_tableIn (tgt := 109) (off := 108) hx hb dX9_many_1 (by rw [hc6]; decide) (by rw [hc6]; decide) (by rw [hc6]; rfl) (by decide) ?_
    refine lv_aload_n hx hb dX9_many_109 rfl (lv_at hl 0 rfl) ?_
    obtain ⟨v110, hv, hF⟩ := ob hF
    refine k_getP C0 M hv fl_X9_12 dX9_many_110 ?_
    obtain ⟨v113, hv, hF⟩ := ob hF
    refine k_getI C0 M hv fl_X9_201 dX9_many_113 ?_
    obtain rfl := (Option.some.inj hF)
    exact rt_SI C0 hr dX9_many_116
  have hF := oi_f hc6 hF
  by_cases hc7 : x1 = (7 : Int32)
  · have hF := oi_t hc7 hF
    refine lv_tableIn (tgt := 117) (off := 116) hx hb dX9_many_1 (by rw [hc7]; decide) (by rw [hc7]; decide) (by rw [hc7]; rfl) (by decide) ?_
    refine lv_aload_n hx hb dX9_many_117 rfl (lv_at hl 0 rfl) ?_
    obtain ⟨v118, hv, hF⟩ := ob hF
    refine k_getP C0 M hv fl_X9_12 dX9_many_118 ?_
    obtain ⟨v121, hv, hF⟩ := ob hF
    refine k_getI C0 M hv fl_X9_202 dX9_many_121 ?_
    obtain rfl := (Option.some.inj hF)
    exact rt_SI C0 hr dX9_many_124
  have hF := oi_f hc7 hF
  by_cases hc8 : x1 = (8 : Int32)
  · have hF := oi_t hc8 hF
    refine lv_tableIn (tgt := 125) (off := 124) hx hb dX9_many_1 (by rw [hc8]; decide) (by rw [hc8]; decide) (by rw [hc8]; rfl) (by decide) ?_
    refine lv_aload_n hx hb dX9_many_125 rfl (lv_at hl 0 rfl) ?_
    obtain ⟨_, hrec, hF⟩ := ob hF
    obtain ⟨v126, hcl, hF⟩ := ob hF
    refine go_SI (r_V (rest := []) (As := []) C0 cb_X9_372 M hrec (tX9_countKept l D cy ad A hcl) (pre_R C0 M) hl dX9_many_126 rfl (Nat.le_of_ble_eq_true rfl) ⟨rfl, rfl⟩ ⟨Nat.le_of_ble_eq_true rfl, Nat.le_of_ble_eq_true rfl⟩ ⟨Nat.le_of_ble_eq_true rfl, Nat.le_of_ble_eq_true rfl⟩ rfl) ?_
    obtain rfl := (Option.some.inj hF)
    exact rt_SI C0 hr dX9_many_129
  have hF := oi_f hc8 hF
  refine lv_tableOut (tgt := 130) hx hb dX9_many_1 (tsw (x := x1) (n := 9) (by decide) (fun k hk => by rcases (show k = 0 ∨ k = 1 ∨ k = 2 ∨ k = 3 ∨ k = 4 ∨ k = 5 ∨ k = 6 ∨ k = 7 ∨ k = 8 by omega) with rfl | rfl | rfl | rfl | rfl | rfl | rfl | rfl | rfl <;> first | exact hc0 | exact hc1 | exact hc2 | exact hc3 | exact hc4 | exact hc5 | exact hc6 | exact hc7 | exact hc8)) (by decide) ?_
  refine lv_bipush (v := (-2 : Int32)) hx hb dX9_many_130 (by decide) ?_
  obtain rfl := (Option.some.inj hF)
  exact rt_SI C0 hr dX9_many_132
set_option maxHeartbeats 4000000 in
set_option maxRecDepth 100000 in
theorem tX9_many (l : Launch) (D : va_G) (cy : Nat → ClassId) (ad : Nat → Nat) (A : Nat → Prop) {S : MS} {a0 : Nat} {a1 : Int32} {r : Int32} (h : fX9_many S a0 a1 = some r) : Met l yX9_many [Cond.code yX9_many cX9_many 2 (some .int)] rmX9_many (PcR D cy ad A S [.ref (ad a0), .int a1]) (QcS (some (.int r))) 0 0 (fun _ => False) := by
  refine met_R (by decide +kernel) cw_X9_many (Nat.le_of_ble_eq_true rfl) ?_
  intro p e s m args below meth c ls C0 M hr hl
  have hl : lv_has ls 2 [(0, .ref (ad a0)), (1, .int a1)] := hl
  exact wX9_many_0 ad A C0 M hr h hl
set_option maxHeartbeats 4000000 in
set_option maxRecDepth 100000 in
theorem wX1_mendedPress_0 {p : Program} {l : Launch} {e : Env} {s : State} {m : MethodId} {args : Array Value} {below : List Frame} {meth : Method} {c : Code} {D : va_G} {cy : Nat → ClassId} (ad : Nat → Nat) (A : Nat → Prop) {S : MS} {r : Int32} {ls : Array Slot} {x0 : Nat} {x1 : Nat} (C0 : CX p s m args meth c RX1 cX1_mendedPress 2 D cy) (M : MW D cy ad A S s.heap) (hr : meth.sig.returnType = some .int) (hF : bX1_mendedPress_0 S x0 x1 = some r) (hl : lv_has ls 2 [(0, .ref (ad x0)), (1, .ref (ad x1))]) : W p l e rmX1_mendedPress s m args below meth c s.heap [] 0 0 (MQ below (QcS (some (.int r))) args s 0 0 (fun _ => False)) (F0 m 0 ls []) := by
  unfold bX1_mendedPress_0 at hF
  obtain ⟨hx, hb, -, hown, -, hts, -⟩ := id C0
  refine lv_aload_n hx hb dX1_mendedPress_0 rfl (lv_at hl 1 rfl) ?_
  refine lv_aload_n hx hb dX1_mendedPress_1 rfl (lv_at hl 0 rfl) ?_
  refine lv_aload_n hx hb dX1_mendedPress_2 rfl (lv_at hl 1 rfl) ?_
  obtain ⟨_, hrec, hF⟩ := ob hF
  obtain ⟨v3, hcl, hF⟩ := ob hF
  refine go_SI (r_V (rest := [.ref (ad x1)]) (As := [.ref (ad x1)]) C0 cb_X1_95 M hrec (tX1_guessFor l D cy ad A hcl) (pre_R C0 M) hl dX1_mendedPress_3 rfl (Nat.le_of_ble_eq_true rfl) ⟨rfl, rfl⟩ ⟨Nat.le_of_ble_eq_true rfl, Nat.le_of_ble_eq_true rfl⟩ ⟨Nat.le_of_ble_eq_true rfl, Nat.le_of_ble_eq_true rfl⟩ rfl) ?_
  obtain ⟨_, hrec, hF⟩ := ob hF
  obtain ⟨v6, hcl, hF⟩ := ob hF
  refine go_SI (r_V (rest := []) (As := [.int v3]) C0 cb_X1_99 M hrec (tX8_nearestPress l D cy ad A hcl) (pre_R C0 M) hl dX1_mendedPress_6 rfl (Nat.le_of_ble_eq_true rfl) ⟨rfl, rfl⟩ ⟨Nat.le_of_ble_eq_true rfl, Nat.le_of_ble_eq_true rfl⟩ ⟨Nat.le_of_ble_eq_true rfl, Nat.le_of_ble_eq_true rfl⟩ rfl) ?_
  obtain rfl := (Option.some.inj hF)
  exact rt_SI C0 hr dX1_mendedPress_9
set_option maxHeartbeats 4000000 in
set_option maxRecDepth 100000 in
theorem tX1_mendedPress (l : Launch) (D : va_G) (cy : Nat → ClassId) (ad : Nat → Nat) (A : Nat → Prop) {S : MS} {a0 : Nat} {a1 : Nat} {r : Int32} (h : fX1_mendedPress S a0 a1 = some r) : Met l yX1_mendedPress [Cond.code yX1_mendedPress cX1_mendedPress 2 (some .int)] rmX1_mendedPress (PcR D cy ad A S [.ref (ad a0), .ref (ad a1)]) (QcS (some (.int r))) 0 0 (fun _ => False) := by
  refine met_R (by decide +kernel) cw_X1_mendedPress (Nat.le_of_ble_eq_true rfl) ?_
  intro p e s m args below meth c ls C0 M hr hl
  have hl : lv_has ls 2 [(0, .ref (ad a0)), (1, .ref (ad a1))] := hl
  exact wX1_mendedPress_0 ad A C0 M hr h hl
set_option maxHeartbeats 4000000 in
set_option maxRecDepth 100000 in
theorem wX9_mended_51 {p : Program} {l : Launch} {e : Env} {s : State} {m : MethodId} {args : Array Value} {below : List Frame} {meth : Method} {c : Code} {D : va_G} {cy : Nat → ClassId} (ad : Nat → Nat) (A : Nat → Prop) {S : MS} {r : Int32} {ls : Array Slot} (C0 : CX p s m args meth c RX9 cX9_mended 3 D cy) (M : MW D cy ad A S s.heap) (hr : meth.sig.returnType = some .int) (hF : bX9_mended_51 S = some r) (hl : lv_has ls 3 []) : W p l e rmX9_mended s m args below meth c s.heap [] 0 0 (MQ below (QcS (some (.int r))) args s 0 0 (fun _ => False)) (F0 m 51 ls []) := by
  unfold bX9_mended_51 at hF
  obtain ⟨hx, hb, -, hown, -, hts, -⟩ := id C0
  refine lv_bipush (v := (-3 : Int32)) hx hb dX9_mended_51 (by decide) ?_
  obtain rfl := (Option.some.inj hF)
  exact rt_SI C0 hr dX9_mended_53
set_option maxHeartbeats 4000000 in
set_option maxRecDepth 100000 in
theorem wX9_mended_0 {p : Program} {l : Launch} {e : Env} {s : State} {m : MethodId} {args : Array Value} {below : List Frame} {meth : Method} {c : Code} {D : va_G} {cy : Nat → ClassId} (ad : Nat → Nat) (A : Nat → Prop) {S : MS} {r : Int32} {ls : Array Slot} {x0 : Nat} {x1 : Int32} (C0 : CX p s m args meth c RX9 cX9_mended 3 D cy) (M : MW D cy ad A S s.heap) (hr : meth.sig.returnType = some .int) (hF : bX9_mended_0 S x0 x1 = some r) (hl : lv_has ls 3 [(0, .ref (ad x0)), (1, .int x1)]) : W p l e rmX9_mended s m args below meth c s.heap [] 0 0 (MQ below (QcS (some (.int r))) args s 0 0 (fun _ => False)) (F0 m 0 ls []) := by
  unfold bX9_mended_0 at hF
  obtain ⟨hx, hb, -, hown, -, hts, -⟩ := id C0
  refine lv_aload_n hx hb dX9_mended_0 rfl (lv_at hl 0 rfl) ?_
  refine lv_iload_n hx hb dX9_mended_1 rfl (lv_at hl 1 rfl) ?_
  obtain ⟨_, hrec, hF⟩ := ob hF
  obtain ⟨v2, hcl, hF⟩ := ob hF
  refine go_SI (r_V (rest := []) (As := [.int x1]) C0 cb_X9_179 M hrec (tX9_isWire l D cy ad A hcl) (pre_R C0 M) hl dX9_mended_2 rfl (Nat.le_of_ble_eq_true rfl) ⟨rfl, rfl⟩ ⟨Nat.le_of_ble_eq_true rfl, Nat.le_of_ble_eq_true rfl⟩ ⟨Nat.le_of_ble_eq_true rfl, Nat.le_of_ble_eq_true rfl⟩ rfl) ?_
  refine lv_if_ne (tgt := 10) hx hb dX9_mended_5 (by decide) (fun hc => ?_) (fun hc => ?_)
  · have hF := oi_f hc hF
    refine lv_aload_n hx hb dX9_mended_10 rfl (lv_at hl 0 rfl) ?_
    obtain ⟨v11, hv, hF⟩ := ob hF
    refine k_getP C0 M hv fl_X9_12 dX9_mended_11 ?_
    obtain ⟨v14, hv, hF⟩ := ob hF
    refine k_getP C0 M hv fl_X9_165 dX9_mended_14 ?_
    refine lv_iload_n hx hb dX9_mended_17 rfl (lv_at hl 1 rfl) ?_
    obtain ⟨_, hrec, hF⟩ := ob hF
    obtain ⟨v18, hcl, hF⟩ := ob hF
    refine go_SP (r_V (rest := []) (As := [.int x1]) C0 cb_X9_113 M hrec (tJx4a65c_get_915e3 l D cy ad A hcl) (pre_R C0 M) hl dX9_mended_18 rfl (Nat.le_of_ble_eq_true rfl) ⟨rfl, rfl⟩ ⟨Nat.le_of_ble_eq_true rfl, Nat.le_of_ble_eq_true rfl⟩ ⟨Nat.le_of_ble_eq_true rfl, Nat.le_of_ble_eq_true rfl⟩ rfl) ?_
    obtain ⟨v21, hv, hF⟩ := ob hF
    refine k_cast (C := RX8) (T := TX8) (N := 6) C0 M hv (by decide) rfl (uw_of 603 (by decide +kernel) rfl) dX9_mended_21 ?_
    refine lv_astore_n (lv' := [(2, .ref (ad v21)), (0, .ref (ad x0)), (1, .int x1)]) hx hb dX9_mended_24 rfl hl (by decide) rfl (fun ls hl => ?_)
    refine lv_aload_n hx hb dX9_mended_25 rfl (lv_at hl 1 rfl) ?_
    obtain ⟨v26, hv, hF⟩ := ob hF
    refine k_getP C0 M hv fl_X9_12 dX9_mended_26 ?_
    obtain ⟨v29, hv, hF⟩ := ob hF
    refine k_getP C0 M hv fl_X9_213 dX9_mended_29 ?_
    refine lv_aload_n hx hb dX9_mended_32 rfl (lv_at hl 0 rfl) ?_
    obtain ⟨v33, hv, hF⟩ := ob hF
    refine k_getI C0 M hv fl_X9_182 dX9_mended_33 ?_
    obtain ⟨v36, hv, hF⟩ := ob hF
    refine k_ld C0 M hv dX9_mended_36 ?_
    refine lv_bipush (v := (-9 : Int32)) hx hb dX9_mended_37 (by decide) ?_
    refine lv_icmp_eq (tgt := 51) hx hb dX9_mended_39 (by decide) (fun hc => ?_) (fun hc => ?_)
    · have hF := oi_t hc hF
      exact wX9_mended_51 ad A C0 M hr hF (lv_sub hl [] rfl)
    · have hF := oi_f hc hF
      refine lv_aload_n hx hb dX9_mended_42 rfl (lv_at hl 0 rfl) ?_
      obtain ⟨v43, hv, hF⟩ := ob hF
      refine k_getP C0 M hv fl_X9_194 dX9_mended_43 ?_
      refine lv_iconst (v := (1 : Int32)) hx hb dX9_mended_46 (by decide) ?_
      obtain ⟨v47, hv, hF⟩ := ob hF
      refine k_ld C0 M hv dX9_mended_47 ?_
      refine lv_if_ne (tgt := 54) hx hb dX9_mended_48 (by decide) (fun hc => ?_) (fun hc => ?_)
      · have hF := oi_f hc hF
        refine lv_aload_n hx hb dX9_mended_54 rfl (lv_at hl 1 rfl) ?_
        obtain ⟨v55, hv, hF⟩ := ob hF
        refine k_getP C0 M hv fl_X9_12 dX9_mended_55 ?_
        refine lv_aload_n hx hb dX9_mended_58 rfl (lv_at hl 0 rfl) ?_
        obtain ⟨_, hrec, hF⟩ := ob hF
        obtain ⟨v59, hcl, hF⟩ := ob hF
        refine go_SI (r_V (rest := []) (As := [.ref (ad v21)]) C0 cb_X9_220 M hrec (tX1_mendedPress l D cy ad A hcl) (pre_R C0 M) hl dX9_mended_59 rfl (Nat.le_of_ble_eq_true rfl) ⟨rfl, rfl⟩ ⟨Nat.le_of_ble_eq_true rfl, Nat.le_of_ble_eq_true rfl⟩ ⟨Nat.le_of_ble_eq_true rfl, Nat.le_of_ble_eq_true rfl⟩ rfl) ?_
        obtain rfl := (Option.some.inj hF)
        exact rt_SI C0 hr dX9_mended_62
      · have hF := oi_t hc hF
        exact wX9_mended_51 ad A C0 M hr hF (lv_sub hl [] rfl)
  · have hF := oi_t hc hF
    refine lv_iconst (v := (-1 : Int32)) hx hb dX9_mended_8 (by decide) ?_
    obtain rfl := (Option.some.inj hF)
    exact rt_SI C0 hr dX9_mended_9
set_option maxHeartbeats 4000000 in
set_option maxRecDepth 100000 in
theorem tX9_mended (l : Launch) (D : va_G) (cy : Nat → ClassId) (ad : Nat → Nat) (A : Nat → Prop) {S : MS} {a0 : Nat} {a1 : Int32} {r : Int32} (h : fX9_mended S a0 a1 = some r) : Met l yX9_mended [Cond.code yX9_mended cX9_mended 3 (some .int)] rmX9_mended (PcR D cy ad A S [.ref (ad a0), .int a1]) (QcS (some (.int r))) 0 0 (fun _ => False) := by
  refine met_R (by decide +kernel) cw_X9_mended (Nat.le_of_ble_eq_true rfl) ?_
  intro p e s m args below meth c ls C0 M hr hl
  have hl : lv_has ls 3 [(0, .ref (ad a0)), (1, .int a1)] := hl
  exact wX9_mended_0 ad A C0 M hr h hl
set_option maxHeartbeats 4000000 in
set_option maxRecDepth 100000 in
theorem wX9_night_0 {p : Program} {l : Launch} {e : Env} {s : State} {m : MethodId} {args : Array Value} {below : List Frame} {meth : Method} {c : Code} {D : va_G} {cy : Nat → ClassId} (ad : Nat → Nat) (A : Nat → Prop) {S : MS} {S' : MS} {H : Heap} {locs : List Loc} {n0 : Nat} {r : Int32} {ls : Array Slot} {x0 : Nat} (C0 : CX p s m args meth c RX9 cX9_night 2 D cy) (M : ST D cy ad A s.heap (ZN n0 s.heap.size) S H locs) (hr : meth.sig.returnType = some .int) (hF : bX9_night_0 S x0 = some (r, S')) (hl : lv_has ls 2 [(0, .ref (ad x0))]) : W p l e rmX9_night s m args below meth c H locs 0 0 (MQ below (QcM D cy ad A n0 S' (some (.int r))) args s 0 0 A) (F0 m 0 ls []) := by
  unfold bX9_night_0 at hF
  obtain ⟨hx, hb, -, hown, -, hts, -⟩ := id C0
  refine lv_aload_n hx hb dX9_night_0 rfl (lv_at hl 0 rfl) ?_
  obtain ⟨v1, hv, hF⟩ := ob hF
  refine k_getP C0 M.1 hv fl_X9_32 dX9_night_1 ?_
  refine lv_astore_n (lv' := [(1, .ref (ad v1)), (0, .ref (ad x0))]) hx hb dX9_night_4 rfl hl (by decide) rfl (fun ls hl => ?_)
  refine lv_aload_n hx hb dX9_night_5 rfl (lv_at hl 1 rfl) ?_
  refine lv_aload_n hx hb dX9_night_6 rfl (lv_at hl 1 rfl) ?_
  obtain ⟨v7, hv, hF⟩ := ob hF
  refine k_getP C0 M.1 hv fl_X9_36 dX9_night_7 ?_
  obtain ⟨S10, hv, hF⟩ := ob hF
  refine k_sP C0 M rfl hv fl_X9_32 dX9_night_10 (fun H locs M => ?_)
  refine lv_aload_n hx hb dX9_night_13 rfl (lv_at hl 0 rfl) ?_
  obtain ⟨_, hrec, hF⟩ := ob hF
  obtain ⟨S14, hcl, hF⟩ := ob hF
  refine go_MV (r_V (rest := []) (As := []) C0 cb_X9_291 M.1 hrec (tJx4a65c_clear_da8c8 l D cy ad A hcl) (pre_R C0 M.1) hl dX9_night_14 rfl (Nat.le_of_ble_eq_true rfl) ⟨rfl, rfl⟩ ⟨Nat.le_of_ble_eq_true rfl, Nat.le_of_ble_eq_true rfl⟩ ⟨Nat.le_of_ble_eq_true rfl, Nat.le_of_ble_eq_true rfl⟩ rfl) M (fun H locs M => ?_)
  refine lv_aload_n hx hb dX9_night_17 rfl (lv_at hl 1 rfl) ?_
  refine lv_aload_n hx hb dX9_night_18 rfl (lv_at hl 0 rfl) ?_
  obtain ⟨S19, hv, hF⟩ := ob hF
  refine k_sP C0 M rfl hv fl_X9_36 dX9_night_19 (fun H locs M => ?_)
  refine lv_aload_n hx hb dX9_night_22 rfl (lv_at hl 1 rfl) ?_
  obtain ⟨v23, hv, hF⟩ := ob hF
  refine k_getP C0 M.1 hv fl_X9_32 dX9_night_23 ?_
  obtain ⟨_, hrec, hF⟩ := ob hF
  obtain ⟨v26, hcl, hF⟩ := ob hF
  refine go_SI (r_V (rest := []) (As := []) C0 cb_X9_93 M.1 hrec (tJx4a65c_size_8abf5 l D cy ad A hcl) (pre_R C0 M.1) hl dX9_night_26 rfl (Nat.le_of_ble_eq_true rfl) ⟨rfl, rfl⟩ ⟨Nat.le_of_ble_eq_true rfl, Nat.le_of_ble_eq_true rfl⟩ ⟨Nat.le_of_ble_eq_true rfl, Nat.le_of_ble_eq_true rfl⟩ rfl) ?_
  obtain ⟨rfl, rfl⟩ := Prod.mk.inj (Option.some.inj hF)
  exact rt_MI C0 M hr dX9_night_29
set_option maxHeartbeats 4000000 in
set_option maxRecDepth 100000 in
theorem tX9_night (l : Launch) (D : va_G) (cy : Nat → ClassId) (ad : Nat → Nat) (A : Nat → Prop) {S S' : MS} {a0 : Nat} {r : Int32} (h : fX9_night S a0 = some (r, S')) : Met l yX9_night [Cond.code yX9_night cX9_night 2 (some .int)] rmX9_night (PcR D cy ad A S [.ref (ad a0)]) (QcM D cy ad A (m_n S) S' (some (.int r))) 0 0 A := by
  refine met_M (by decide +kernel) cw_X9_night (Nat.le_of_ble_eq_true rfl) ?_
  intro p e s m args below meth c ls C0 M hr hin hl
  have hl : lv_has ls 2 [(0, .ref (ad a0))] := hl
  exact wX9_night_0 ad A C0 M hr h hl
set_option maxHeartbeats 4000000 in
set_option maxRecDepth 100000 in
theorem wX9_place_0 {p : Program} {l : Launch} {e : Env} {s : State} {m : MethodId} {args : Array Value} {below : List Frame} {meth : Method} {c : Code} {D : va_G} {cy : Nat → ClassId} (ad : Nat → Nat) (A : Nat → Prop) {S : MS} {r : Int32} {ls : Array Slot} {x0 : Nat} {x1 : Int32} {x2 : Int32} (C0 : CX p s m args meth c RX9 cX9_place 3 D cy) (M : MW D cy ad A S s.heap) (hr : meth.sig.returnType = some .int) (hF : bX9_place_0 S x0 x1 x2 = some r) (hl : lv_has ls 3 [(0, .ref (ad x0)), (1, .int x1), (2, .int x2)]) : W p l e rmX9_place s m args below meth c s.heap [] 0 0 (MQ below (QcS (some (.int r))) args s 0 0 (fun _ => False)) (F0 m 0 ls []) := by
  unfold bX9_place_0 at hF
  obtain ⟨hx, hb, -, hown, -, hts, -⟩ := id C0
  refine lv_aload_n hx hb dX9_place_0 rfl (lv_at hl 0 rfl) ?_
  refine lv_iload_n hx hb dX9_place_1 rfl (lv_at hl 1 rfl) ?_
  obtain ⟨_, hrec, hF⟩ := ob hF
  obtain ⟨v2, hcl, hF⟩ := ob hF
  refine go_SI (r_V (rest := []) (As := [.int x1]) C0 cb_X9_109 M hrec (tX9_isPost l D cy ad A hcl) (pre_R C0 M) hl dX9_place_2 rfl (Nat.le_of_ble_eq_true rfl) ⟨rfl, rfl⟩ ⟨Nat.le_of_ble_eq_true rfl, Nat.le_of_ble_eq_true rfl⟩ ⟨Nat.le_of_ble_eq_true rfl, Nat.le_of_ble_eq_true rfl⟩ rfl) ?_
  refine lv_if_ne (tgt := 10) hx hb dX9_place_5 (by decide) (fun hc => ?_) (fun hc => ?_)
  · have hF := oi_f hc hF
    refine lv_iload_n hx hb dX9_place_10 rfl (lv_at hl 2 rfl) ?_
    refine lv_iconst (v := (0 : Int32)) hx hb dX9_place_11 (by decide) ?_
    refine lv_bipush (v := (99 : Int32)) hx hb dX9_place_12 (by decide) ?_
    obtain ⟨v14, hcl, hF⟩ := ob hF
    refine go_SI (r_S (rest := []) (As := [.int x2, .int (0 : Int32), .int (99 : Int32)]) C0 cb_X9_86 (tX9_isWithin l D cy ad hcl) (pre_S C0) hl dX9_place_14 rfl (Nat.le_of_ble_eq_true rfl) ⟨rfl, rfl⟩ ⟨Nat.le_of_ble_eq_true rfl, Nat.le_of_ble_eq_true rfl⟩ ⟨Nat.le_of_ble_eq_true rfl, Nat.le_of_ble_eq_true rfl⟩ rfl) ?_
    refine lv_if_ne (tgt := 23) hx hb dX9_place_17 (by decide) (fun hc => ?_) (fun hc => ?_)
    · have hF := oi_f hc hF
      refine lv_aload_n hx hb dX9_place_23 rfl (lv_at hl 0 rfl) ?_
      obtain ⟨v24, hv, hF⟩ := ob hF
      refine k_getP C0 M hv fl_X9_12 dX9_place_24 ?_
      obtain ⟨v27, hv, hF⟩ := ob hF
      refine k_getP C0 M hv fl_X9_90 dX9_place_27 ?_
      refine lv_iload_n hx hb dX9_place_30 rfl (lv_at hl 1 rfl) ?_
      obtain ⟨_, hrec, hF⟩ := ob hF
      obtain ⟨v31, hcl, hF⟩ := ob hF
      refine go_SP (r_V (rest := []) (As := [.int x1]) C0 cb_X9_113 M hrec (tJx4a65c_get_915e3 l D cy ad A hcl) (pre_R C0 M) hl dX9_place_31 rfl (Nat.le_of_ble_eq_true rfl) ⟨rfl, rfl⟩ ⟨Nat.le_of_ble_eq_true rfl, Nat.le_of_ble_eq_true rfl⟩ ⟨Nat.le_of_ble_eq_true rfl, Nat.le_of_ble_eq_true rfl⟩ rfl) ?_
      obtain ⟨v34, hv, hF⟩ := ob hF
      refine k_cast (C := RX6) (T := TX6) (N := 6) C0 M hv (by decide) rfl (uw_of 345 (by decide +kernel) rfl) dX9_place_34 ?_
      refine lv_iload_n hx hb dX9_place_37 rfl (lv_at hl 2 rfl) ?_
      obtain ⟨_, hrec, hF⟩ := ob hF
      obtain ⟨v38, hcl, hF⟩ := ob hF
      refine go_SI (r_V (rest := []) (As := [.int x2]) C0 cb_X9_147 M hrec (tX6_placeAt l D cy ad A hcl) (pre_R C0 M) hl dX9_place_38 rfl (Nat.le_of_ble_eq_true rfl) ⟨rfl, rfl⟩ ⟨Nat.le_of_ble_eq_true rfl, Nat.le_of_ble_eq_true rfl⟩ ⟨Nat.le_of_ble_eq_true rfl, Nat.le_of_ble_eq_true rfl⟩ rfl) ?_
      obtain rfl := (Option.some.inj hF)
      exact rt_SI C0 hr dX9_place_41
    · have hF := oi_t hc hF
      refine lv_bipush (v := (-2 : Int32)) hx hb dX9_place_20 (by decide) ?_
      obtain rfl := (Option.some.inj hF)
      exact rt_SI C0 hr dX9_place_22
  · have hF := oi_t hc hF
    refine lv_iconst (v := (-1 : Int32)) hx hb dX9_place_8 (by decide) ?_
    obtain rfl := (Option.some.inj hF)
    exact rt_SI C0 hr dX9_place_9
set_option maxHeartbeats 4000000 in
set_option maxRecDepth 100000 in
theorem tX9_place (l : Launch) (D : va_G) (cy : Nat → ClassId) (ad : Nat → Nat) (A : Nat → Prop) {S : MS} {a0 : Nat} {a1 : Int32} {a2 : Int32} {r : Int32} (h : fX9_place S a0 a1 a2 = some r) : Met l yX9_place [Cond.code yX9_place cX9_place 3 (some .int)] rmX9_place (PcR D cy ad A S [.ref (ad a0), .int a1, .int a2]) (QcS (some (.int r))) 0 0 (fun _ => False) := by
  refine met_R (by decide +kernel) cw_X9_place (Nat.le_of_ble_eq_true rfl) ?_
  intro p e s m args below meth c ls C0 M hr hl
  have hl : lv_has ls 3 [(0, .ref (ad a0)), (1, .int a1), (2, .int a2)] := hl
  exact wX9_place_0 ad A C0 M hr h hl
set_option maxHeartbeats 4000000 in
set_option maxRecDepth 100000 in
theorem wX6_init_0 {p : Program} {l : Launch} {e : Env} {s : State} {m : MethodId} {args : Array Value} {below : List Frame} {meth : Method} {c : Code} {D : va_G} {cy : Nat → ClassId} (ad : Nat → Nat) (A : Nat → Prop) {S : MS} {S' : MS} {H : Heap} {locs : List Loc} {n0 : Nat} {ls : Array Slot} {x0 : Nat} {x1 : Int32} {x2 : Int32} {x3 : Int32} {x4 : Int32} {x5 : Int32} {x6 : Int32} (C0 : CX p s m args meth c RX6 cX6_init 7 D cy) (M : ST D cy ad A s.heap (ZN n0 s.heap.size) S H locs) (hr : meth.sig.returnType = none) (hin : meth.name = "<init>") (hF : bX6_init_0 S x0 x1 x2 x3 x4 x5 x6 = some S') (hl : lv_has ls 7 [(0, .ref (ad x0)), (1, .int x1), (2, .int x2), (3, .int x3), (4, .int x4), (5, .int x5), (6, .int x6)]) : W p l e rmX6_init s m args below meth c H locs 0 0 (MQ below (QcM D cy ad A n0 S' (none)) args s 0 0 A) (F0 m 0 ls []) := by
  unfold bX6_init_0 at hF
  obtain ⟨hx, hb, -, hown, -, hts, -⟩ := id C0
  refine lv_aload_n hx hb dX6_init_0 rfl (lv_at hl 0 rfl) ?_
  refine W.objInit hx hb hown (hts _ (uw_of 350 (by decide +kernel) rfl)) (hts _ (uw_of 111 (by decide +kernel) rfl)) (hts _ (uw_of 112 (by decide +kernel) rfl)) rfl (by rw [C0.2.2.1]; exact hl.1) rfl dX6_init_1 (Nat.le_of_ble_eq_true rfl) (Nat.le_of_ble_eq_true rfl) ?_
  refine W.eq (g2 := F0 m 4 ls []) rfl ?_
  refine lv_aload_n hx hb dX6_init_4 rfl (lv_at hl 0 rfl) ?_
  refine lv_iload_n hx hb dX6_init_5 rfl (lv_at hl 1 rfl) ?_
  obtain ⟨S6, hv, hF⟩ := ob hF
  refine k_sIF C0 M hin hv fl_X6_9 dX6_init_6 (fun H locs M => ?_)
  refine lv_aload_n hx hb dX6_init_9 rfl (lv_at hl 0 rfl) ?_
  refine lv_iload_n hx hb dX6_init_10 rfl (lv_at hl 2 rfl) ?_
  obtain ⟨S11, hv, hF⟩ := ob hF
  refine k_sIF C0 M hin hv fl_X6_15 dX6_init_11 (fun H locs M => ?_)
  refine lv_aload_n hx hb dX6_init_14 rfl (lv_at hl 0 rfl) ?_
  refine lv_iload_n hx hb dX6_init_15 rfl (lv_at hl 3 rfl) ?_
  obtain ⟨S16, hv, hF⟩ := ob hF
  refine k_sIF C0 M hin hv fl_X6_18 dX6_init_16 (fun H locs M => ?_)
  refine lv_aload_n hx hb dX6_init_19 rfl (lv_at hl 0 rfl) ?_
  refine lv_iload hx hb dX6_init_20 (lv_at hl 4 rfl) ?_
  obtain ⟨S22, hv, hF⟩ := ob hF
  refine k_sIF C0 M hin hv fl_X6_21 dX6_init_22 (fun H locs M => ?_)
  refine lv_aload_n hx hb dX6_init_25 rfl (lv_at hl 0 rfl) ?_
  refine lv_iload hx hb dX6_init_26 (lv_at hl 5 rfl) ?_
  obtain ⟨S28, hv, hF⟩ := ob hF
  refine k_sIF C0 M hin hv fl_X6_24 dX6_init_28 (fun H locs M => ?_)
  refine lv_aload_n hx hb dX6_init_31 rfl (lv_at hl 0 rfl) ?_
  refine lv_iload hx hb dX6_init_32 (lv_at hl 6 rfl) ?_
  obtain ⟨S34, hv, hF⟩ := ob hF
  refine k_sIF C0 M hin hv fl_X6_27 dX6_init_34 (fun H locs M => ?_)
  obtain rfl := (Option.some.inj hF)
  exact rt_MV C0 M hr dX6_init_37
set_option maxHeartbeats 4000000 in
set_option maxRecDepth 100000 in
theorem tX6_init (l : Launch) (D : va_G) (cy : Nat → ClassId) (ad : Nat → Nat) (A : Nat → Prop) {S S' : MS} {a0 : Nat} {a1 : Int32} {a2 : Int32} {a3 : Int32} {a4 : Int32} {a5 : Int32} {a6 : Int32} (h : fX6_init S a0 a1 a2 a3 a4 a5 a6 = some S') : Met l yX6_init [Cond.code yX6_init cX6_init 7 (none)] rmX6_init (PcR D cy ad A S [.ref (ad a0), .int a1, .int a2, .int a3, .int a4, .int a5, .int a6]) (QcM D cy ad A (m_n S) S' (none)) 0 0 A := by
  refine met_M (by decide +kernel) cw_X6_init (Nat.le_of_ble_eq_true rfl) ?_
  intro p e s m args below meth c ls C0 M hr hin hl
  have hl : lv_has ls 7 [(0, .ref (ad a0)), (1, .int a1), (2, .int a2), (3, .int a3), (4, .int a4), (5, .int a5), (6, .int a6)] := hl
  exact wX6_init_0 ad A C0 M hr hin h hl
set_option maxHeartbeats 4000000 in
set_option maxRecDepth 100000 in
theorem wX9_post_28 {p : Program} {l : Launch} {e : Env} {s : State} {m : MethodId} {args : Array Value} {below : List Frame} {meth : Method} {c : Code} {D : va_G} {cy : Nat → ClassId} (ad : Nat → Nat) (A : Nat → Prop) {S : MS} {S' : MS} {H : Heap} {locs : List Loc} {K0 : Nat} {r : Int32} {ls : Array Slot} (C0 : CX p s m args meth c RX9 cX9_post 7 D cy) (hA : ∀ k, 0 < k → A (ad k)) (hs : ∀ k, K0 ≤ k → ad (k + 1) + 1 = ad (k + 2)) (hE : EX ad A s) (M : ST D cy ad A s.heap (ZA ad K0) S H locs) (hr : meth.sig.returnType = some .int) (hF : bX9_post_28 S = some (r, S')) (hl : lv_has ls 7 []) : W p l e rmX9_post s m args below meth c H locs 0 0 (MQ below (QcA D cy ad A K0 S' (some (.int r))) args s 2 46 A) (F0 m 28 ls []) := by
  unfold bX9_post_28 at hF
  obtain ⟨hx, hb, -, hown, -, hts, -⟩ := id C0
  refine lv_bipush (v := (-2 : Int32)) hx hb dX9_post_28 (by decide) ?_
  obtain ⟨rfl, rfl⟩ := Prod.mk.inj (Option.some.inj hF)
  refine W.widen (k := 2) (n := 46) (Nat.le_of_ble_eq_true rfl) (Nat.le_of_ble_eq_true rfl) ?_
  exact rt_AI C0 M hr dX9_post_30
set_option maxHeartbeats 4000000 in
set_option maxRecDepth 100000 in
theorem wX9_post_55 {p : Program} {l : Launch} {e : Env} {s : State} {m : MethodId} {args : Array Value} {below : List Frame} {meth : Method} {c : Code} {D : va_G} {cy : Nat → ClassId} (ad : Nat → Nat) (A : Nat → Prop) {S : MS} {S' : MS} {H : Heap} {locs : List Loc} {K0 : Nat} {r : Int32} {ls : Array Slot} (C0 : CX p s m args meth c RX9 cX9_post 7 D cy) (hA : ∀ k, 0 < k → A (ad k)) (hs : ∀ k, K0 ≤ k → ad (k + 1) + 1 = ad (k + 2)) (hE : EX ad A s) (M : ST D cy ad A s.heap (ZA ad K0) S H locs) (hr : meth.sig.returnType = some .int) (hF : bX9_post_55 S = some (r, S')) (hl : lv_has ls 7 []) : W p l e rmX9_post s m args below meth c H locs 0 0 (MQ below (QcA D cy ad A K0 S' (some (.int r))) args s 2 46 A) (F0 m 55 ls []) := by
  unfold bX9_post_55 at hF
  obtain ⟨hx, hb, -, hown, -, hts, -⟩ := id C0
  refine lv_bipush (v := (-2 : Int32)) hx hb dX9_post_55 (by decide) ?_
  obtain ⟨rfl, rfl⟩ := Prod.mk.inj (Option.some.inj hF)
  refine W.widen (k := 2) (n := 46) (Nat.le_of_ble_eq_true rfl) (Nat.le_of_ble_eq_true rfl) ?_
  exact rt_AI C0 M hr dX9_post_57
set_option maxHeartbeats 4000000 in
set_option maxRecDepth 100000 in
theorem wX9_post_0 {p : Program} {l : Launch} {e : Env} {s : State} {m : MethodId} {args : Array Value} {below : List Frame} {meth : Method} {c : Code} {D : va_G} {cy : Nat → ClassId} (ad : Nat → Nat) (A : Nat → Prop) {S : MS} {S' : MS} {H : Heap} {locs : List Loc} {K0 : Nat} {r : Int32} {ls : Array Slot} {x0 : Nat} {x1 : Int32} {x2 : Int32} {x3 : Int32} {x4 : Int32} {x5 : Int32} {x6 : Int32} (C0 : CX p s m args meth c RX9 cX9_post 7 D cy) (hA : ∀ k, 0 < k → A (ad k)) (hs : ∀ k, K0 ≤ k → ad (k + 1) + 1 = ad (k + 2)) (hE : EX ad A s) (M : ST D cy ad A s.heap (ZA ad K0) S H locs) (hr : meth.sig.returnType = some .int) (hF : bX9_post_0 S x0 x1 x2 x3 x4 x5 x6 = some (r, S')) (hl : lv_has ls 7 [(0, .ref (ad x0)), (1, .int x1), (2, .int x2), (3, .int x3), (4, .int x4), (5, .int x5), (6, .int x6)]) : W p l e rmX9_post s m args below meth c H locs 0 0 (MQ below (QcA D cy ad A K0 S' (some (.int r))) args s 2 46 A) (F0 m 0 ls []) := by
  unfold bX9_post_0 at hF
  obtain ⟨hx, hb, -, hown, -, hts, -⟩ := id C0
  refine lv_iload_n hx hb dX9_post_0 rfl (lv_at hl 1 rfl) ?_
  refine lv_iconst (v := (3 : Int32)) hx hb dX9_post_1 (by decide) ?_
  obtain ⟨v2, hcl, hF⟩ := ob hF
  refine go_SI (r_S (rest := []) (As := [.int x1, .int (3 : Int32)]) C0 cb_X9_79 (tX9_isBelow l D cy ad hcl) (pre_S C0) hl dX9_post_2 rfl (Nat.le_of_ble_eq_true rfl) ⟨rfl, rfl⟩ ⟨Nat.le_of_ble_eq_true rfl, Nat.le_of_ble_eq_true rfl⟩ ⟨Nat.le_of_ble_eq_true rfl, Nat.le_of_ble_eq_true rfl⟩ rfl) ?_
  refine lv_if_eq (tgt := 28) hx hb dX9_post_5 (by decide) (fun hc => ?_) (fun hc => ?_)
  · have hF := oi_t hc hF
    exact wX9_post_28 ad A C0 hA hs hE M hr hF (lv_sub hl [] rfl)
  · have hF := oi_f hc hF
    refine lv_iload_n hx hb dX9_post_8 rfl (lv_at hl 2 rfl) ?_
    refine lv_iload_n hx hb dX9_post_9 rfl (lv_at hl 3 rfl) ?_
    obtain ⟨v10, hcl, hF⟩ := ob hF
    refine go_SI (r_S (rest := []) (As := [.int x2, .int x3]) C0 cb_X9_83 (tX9_isPlace l D cy ad hcl) (pre_S C0) hl dX9_post_10 rfl (Nat.le_of_ble_eq_true rfl) ⟨rfl, rfl⟩ ⟨Nat.le_of_ble_eq_true rfl, Nat.le_of_ble_eq_true rfl⟩ ⟨Nat.le_of_ble_eq_true rfl, Nat.le_of_ble_eq_true rfl⟩ rfl) ?_
    refine lv_if_eq (tgt := 28) hx hb dX9_post_13 (by decide) (fun hc => ?_) (fun hc => ?_)
    · have hF := oi_t hc hF
      exact wX9_post_28 ad A C0 hA hs hE M hr hF (lv_sub hl [] rfl)
    · have hF := oi_f hc hF
      refine lv_iload hx hb dX9_post_16 (lv_at hl 4 rfl) ?_
      refine lv_iconst (v := (0 : Int32)) hx hb dX9_post_18 (by decide) ?_
      refine lv_sipush (v := (3000 : Int32)) hx hb dX9_post_19 (by decide) ?_
      obtain ⟨v22, hcl, hF⟩ := ob hF
      refine go_SI (r_S (rest := []) (As := [.int x4, .int (0 : Int32), .int (3000 : Int32)]) C0 cb_X9_86 (tX9_isWithin l D cy ad hcl) (pre_S C0) hl dX9_post_22 rfl (Nat.le_of_ble_eq_true rfl) ⟨rfl, rfl⟩ ⟨Nat.le_of_ble_eq_true rfl, Nat.le_of_ble_eq_true rfl⟩ ⟨Nat.le_of_ble_eq_true rfl, Nat.le_of_ble_eq_true rfl⟩ rfl) ?_
      refine lv_if_ne (tgt := 31) hx hb dX9_post_25 (by decide) (fun hc => ?_) (fun hc => ?_)
      · have hF := oi_f hc hF
        refine lv_iload hx hb dX9_post_31 (lv_at hl 5 rfl) ?_
        refine lv_bipush (v := (-20 : Int32)) hx hb dX9_post_33 (by decide) ?_
        refine lv_bipush (v := (20 : Int32)) hx hb dX9_post_35 (by decide) ?_
        obtain ⟨v37, hcl, hF⟩ := ob hF
        refine go_SI (r_S (rest := []) (As := [.int x5, .int (-20 : Int32), .int (20 : Int32)]) C0 cb_X9_86 (tX9_isWithin l D cy ad hcl) (pre_S C0) hl dX9_post_37 rfl (Nat.le_of_ble_eq_true rfl) ⟨rfl, rfl⟩ ⟨Nat.le_of_ble_eq_true rfl, Nat.le_of_ble_eq_true rfl⟩ ⟨Nat.le_of_ble_eq_true rfl, Nat.le_of_ble_eq_true rfl⟩ rfl) ?_
        refine lv_if_eq (tgt := 55) hx hb dX9_post_40 (by decide) (fun hc => ?_) (fun hc => ?_)
        · have hF := oi_t hc hF
          exact wX9_post_55 ad A C0 hA hs hE M hr hF (lv_sub hl [] rfl)
        · have hF := oi_f hc hF
          refine lv_iload hx hb dX9_post_43 (lv_at hl 6 rfl) ?_
          refine lv_bipush (v := (-20 : Int32)) hx hb dX9_post_45 (by decide) ?_
          refine lv_bipush (v := (20 : Int32)) hx hb dX9_post_47 (by decide) ?_
          obtain ⟨v49, hcl, hF⟩ := ob hF
          refine go_SI (r_S (rest := []) (As := [.int x6, .int (-20 : Int32), .int (20 : Int32)]) C0 cb_X9_86 (tX9_isWithin l D cy ad hcl) (pre_S C0) hl dX9_post_49 rfl (Nat.le_of_ble_eq_true rfl) ⟨rfl, rfl⟩ ⟨Nat.le_of_ble_eq_true rfl, Nat.le_of_ble_eq_true rfl⟩ ⟨Nat.le_of_ble_eq_true rfl, Nat.le_of_ble_eq_true rfl⟩ rfl) ?_
          refine lv_if_ne (tgt := 58) hx hb dX9_post_52 (by decide) (fun hc => ?_) (fun hc => ?_)
          · have hF := oi_f hc hF
            refine lv_aload_n hx hb dX9_post_58 rfl (lv_at hl 0 rfl) ?_
            obtain ⟨v59, hv, hF⟩ := ob hF
            refine k_getP C0 M.1 hv fl_X9_12 dX9_post_59 ?_
            obtain ⟨v62, hv, hF⟩ := ob hF
            refine k_getP C0 M.1 hv fl_X9_90 dX9_post_62 ?_
            obtain ⟨_, hrec, hF⟩ := ob hF
            obtain ⟨v65, hcl, hF⟩ := ob hF
            refine go_SI (r_V (rest := []) (As := []) C0 cb_X9_93 M.1 hrec (tJx4a65c_size_8abf5 l D cy ad A hcl) (pre_R C0 M.1) hl dX9_post_65 rfl (Nat.le_of_ble_eq_true rfl) ⟨rfl, rfl⟩ ⟨Nat.le_of_ble_eq_true rfl, Nat.le_of_ble_eq_true rfl⟩ ⟨Nat.le_of_ble_eq_true rfl, Nat.le_of_ble_eq_true rfl⟩ rfl) ?_
            refine lv_bipush (v := (12 : Int32)) hx hb dX9_post_68 (by decide) ?_
            refine lv_icmp_lt (tgt := 76) hx hb dX9_post_70 (by decide) (fun hc => ?_) (fun hc => ?_)
            · have hF := oi_t hc hF
              refine lv_aload_n hx hb dX9_post_76 rfl (lv_at hl 0 rfl) ?_
              obtain ⟨v77, hv, hF⟩ := ob hF
              refine k_getP C0 M.1 hv fl_X9_12 dX9_post_77 ?_
              obtain ⟨v80, hv, hF⟩ := ob hF
              refine k_getP C0 M.1 hv fl_X9_90 dX9_post_80 ?_
              obtain ⟨o83, ho, hF⟩ := ob hF
              obtain ⟨S83, hv, hF⟩ := ob hF
              have ho := vtI ho
              have hv := vtI hv
              refine k_new C0 M hA hs nw_X9_97 (Nat.le_of_ble_eq_true rfl) (Nat.le_of_ble_eq_true rfl) dX9_post_83 (fun H M => ?_)
              rw [hv] at M
              rw [ho]
              refine W.widen (k := 1) (n := 6) (Nat.le_of_ble_eq_true rfl) (Nat.le_of_ble_eq_true rfl) ?_
              refine lv_dup hx hb dX9_post_86 rfl ?_
              refine lv_iload_n hx hb dX9_post_87 rfl (lv_at hl 1 rfl) ?_
              refine lv_iload_n hx hb dX9_post_88 rfl (lv_at hl 2 rfl) ?_
              refine lv_iload_n hx hb dX9_post_89 rfl (lv_at hl 3 rfl) ?_
              refine lv_iload hx hb dX9_post_90 (lv_at hl 4 rfl) ?_
              refine lv_iload hx hb dX9_post_92 (lv_at hl 5 rfl) ?_
              refine lv_iload hx hb dX9_post_94 (lv_at hl 6 rfl) ?_
              obtain ⟨S96, hcl, hF⟩ := ob hF
              refine go_MV (r_I (rest := [.ref (ad o83), .ref (ad v80)]) (As := [.int x1, .int x2, .int x3, .int x4, .int x5, .int x6]) C0 cb_X9_99 (tX6_init l D cy ad A hcl) (pre_R C0 M.1) hl dX9_post_96 rfl (Nat.le_of_ble_eq_true rfl) ⟨rfl, rfl⟩ ⟨Nat.le_of_ble_eq_true rfl, Nat.le_of_ble_eq_true rfl⟩ ⟨Nat.le_of_ble_eq_true rfl, Nat.le_of_ble_eq_true rfl⟩ rfl) M (fun H locs M => ?_)
              obtain ⟨_, hrec, hF⟩ := ob hF
              obtain ⟨v99, S99, hcl, hF⟩ := ob2 hF
              refine go_AI (r_V (rest := []) (As := [.ref (ad o83)]) C0 cb_X9_102 M.1 hrec (tJx4a65c_add_9ea2d l D cy ad A K0 hA hs hcl) (pre_A C0 hE M) hl dX9_post_99 rfl (Nat.le_of_ble_eq_true rfl) ⟨rfl, rfl⟩ ⟨Nat.le_of_ble_eq_true rfl, Nat.le_of_ble_eq_true rfl⟩ ⟨Nat.le_of_ble_eq_true rfl, Nat.le_of_ble_eq_true rfl⟩ rfl) M (fun H locs M => ?_)
              refine W.widen (k := 2) (n := 46) (Nat.le_of_ble_eq_true rfl) (Nat.le_of_ble_eq_true rfl) ?_
              refine lv_pop hx hb dX9_post_102 rfl ?_
              refine lv_aload_n hx hb dX9_post_103 rfl (lv_at hl 0 rfl) ?_
              obtain ⟨_, hrec, hF⟩ := ob hF
              obtain ⟨S104, hcl, hF⟩ := ob hF
              refine go_MV (r_V (rest := []) (As := []) C0 cb_X9_106 M.1 hrec (tX9_lookAgain l D cy ad A hcl) (pre_R C0 M.1) hl dX9_post_104 rfl (Nat.le_of_ble_eq_true rfl) ⟨rfl, rfl⟩ ⟨Nat.le_of_ble_eq_true rfl, Nat.le_of_ble_eq_true rfl⟩ ⟨Nat.le_of_ble_eq_true rfl, Nat.le_of_ble_eq_true rfl⟩ rfl) M (fun H locs M => ?_)
              refine lv_aload_n hx hb dX9_post_107 rfl (lv_at hl 0 rfl) ?_
              obtain ⟨v108, hv, hF⟩ := ob hF
              refine k_getP C0 M.1 hv fl_X9_12 dX9_post_108 ?_
              obtain ⟨v111, hv, hF⟩ := ob hF
              refine k_getP C0 M.1 hv fl_X9_90 dX9_post_111 ?_
              obtain ⟨_, hrec, hF⟩ := ob hF
              obtain ⟨v114, hcl, hF⟩ := ob hF
              refine go_SI (r_V (rest := []) (As := []) C0 cb_X9_93 M.1 hrec (tJx4a65c_size_8abf5 l D cy ad A hcl) (pre_R C0 M.1) hl dX9_post_114 rfl (Nat.le_of_ble_eq_true rfl) ⟨rfl, rfl⟩ ⟨Nat.le_of_ble_eq_true rfl, Nat.le_of_ble_eq_true rfl⟩ ⟨Nat.le_of_ble_eq_true rfl, Nat.le_of_ble_eq_true rfl⟩ rfl) ?_
              refine lv_iconst (v := (1 : Int32)) hx hb dX9_post_117 (by decide) ?_
              refine lv_isub hx hb dX9_post_118 ?_
              obtain ⟨rfl, rfl⟩ := Prod.mk.inj (Option.some.inj hF)
              exact rt_AI C0 M hr dX9_post_119
            · have hF := oi_f hc hF
              refine lv_bipush (v := (-4 : Int32)) hx hb dX9_post_73 (by decide) ?_
              obtain ⟨rfl, rfl⟩ := Prod.mk.inj (Option.some.inj hF)
              refine W.widen (k := 2) (n := 46) (Nat.le_of_ble_eq_true rfl) (Nat.le_of_ble_eq_true rfl) ?_
              exact rt_AI C0 M hr dX9_post_75
          · have hF := oi_t hc hF
            exact wX9_post_55 ad A C0 hA hs hE M hr hF (lv_sub hl [] rfl)
      · have hF := oi_t hc hF
        exact wX9_post_28 ad A C0 hA hs hE M hr hF (lv_sub hl [] rfl)
set_option maxHeartbeats 4000000 in
set_option maxRecDepth 100000 in
theorem tX9_post (l : Launch) (D : va_G) (cy : Nat → ClassId) (ad : Nat → Nat) (A : Nat → Prop) (K0 : Nat) (hA : ∀ k, 0 < k → A (ad k)) (hs : ∀ k, K0 ≤ k → ad (k + 1) + 1 = ad (k + 2)) {S S' : MS} {a0 : Nat} {a1 : Int32} {a2 : Int32} {a3 : Int32} {a4 : Int32} {a5 : Int32} {a6 : Int32} {r : Int32} (h : fX9_post S a0 a1 a2 a3 a4 a5 a6 = some (r, S')) : Met l yX9_post [Cond.code yX9_post cX9_post 7 (some .int)] rmX9_post (PcA D cy ad A K0 S [.ref (ad a0), .int a1, .int a2, .int a3, .int a4, .int a5, .int a6]) (QcA D cy ad A K0 S' (some (.int r))) 2 46 A := by
  refine met_A (by decide +kernel) cw_X9_post (Nat.le_of_ble_eq_true rfl) ?_
  intro p e s m args below meth c ls C0 hE M hr hin hl
  have hl : lv_has ls 7 [(0, .ref (ad a0)), (1, .int a1), (2, .int a2), (3, .int a3), (4, .int a4), (5, .int a5), (6, .int a6)] := hl
  exact wX9_post_0 ad A C0 hA hs hE M hr h hl
