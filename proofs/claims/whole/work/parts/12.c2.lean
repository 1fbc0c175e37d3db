theorem cw_X9_isWithin : Cond.code yX9_isWithin cX9_isWithin 3 (some .boolean) ∈ UW := (uw_of 340 (by decide +kernel) rfl)
theorem cw_X9_isPlace : Cond.code yX9_isPlace cX9_isPlace 2 (some .boolean) ∈ UW := (uw_of 337 (by decide +kernel) rfl)
theorem cb_X0_117 : CNS RX0 117 yX9_isPlace "ChartRoom" cX9_isPlace 2 (some .boolean) 2 := ⟨⟨cw_X9_isPlace, ini_ChartRoom, by decide, (uw_of 891 (by decide +kernel) rfl)⟩, (uw_of 336 (by decide +kernel) rfl)⟩
theorem cw_X0_carriedValue : Cond.code yX0_carriedValue cX0_carriedValue 5 (some .int) ∈ UW := (uw_of 890 (by decide +kernel) rfl)
theorem cb_X0_120 : CBV RX0 120 yX0_carriedValue cX0_carriedValue 5 (some .int) 4 1 := ⟨⟨cw_X0_carriedValue, ini_ChartRoom_Chart, by decide, (uw_of 906 (by decide +kernel) rfl)⟩, (uw_of 888 (by decide +kernel) rfl), (uw_of 889 (by decide +kernel) rfl), by decide, TX0, 10, rfl⟩
theorem cw_X0_compare : Cond.code yX0_compare cX0_compare 6 (none) ∈ UW := (uw_of 905 (by decide +kernel) rfl)
theorem cb_X9_86 : CBS RX9 86 yX9_isWithin cX9_isWithin 3 (some .boolean) 3 := ⟨⟨cw_X9_isWithin, ini_ChartRoom, by decide, (uw_of 338 (by decide +kernel) rfl)⟩, (uw_of 339 (by decide +kernel) rfl)⟩
theorem fl_X9_58 : FL RX9 58 10 8 2 (.array .boolean) 1 := ⟨RX9, "ChartRoom", TX9, 13, tyX9, rfl, iu_10, tyX9_ok, nmX9, by decide, rfl, by decide, (uw_of 296 (by decide +kernel) rfl), Or.inl rfl, tyX9_ok 8 (by decide), (fun h => by cases h), (fun _ => ⟨rfl, rfl⟩), rfl⟩
theorem fl_X9_55 : FL RX9 55 10 7 2 (.array (.array .int)) 1 := ⟨RX9, "ChartRoom", TX9, 13, tyX9, rfl, iu_10, tyX9_ok, nmX9, by decide, rfl, by decide, (uw_of 295 (by decide +kernel) rfl), Or.inl rfl, tyX9_ok 7 (by decide), (fun h => by cases h), (fun _ => ⟨rfl, rfl⟩), rfl⟩
theorem cb_X9_306 : CBV RX9 306 yX0_compare cX0_compare 6 (none) 3 1 := ⟨⟨cw_X0_compare, ini_ChartRoom_Chart, by decide, (uw_of 902 (by decide +kernel) rfl)⟩, (uw_of 903 (by decide +kernel) rfl), (uw_of 904 (by decide +kernel) rfl), by decide, TX0, 10, rfl⟩
theorem fl_X9_310 : FL RX9 310 1 5 0 .int 0 := ⟨RX0, "ChartRoom$Chart", TX0, 10, tyX0, rfl, iu_1, tyX0_ok, nmX0, by decide, rfl, by decide, (uw_of 202 (by decide +kernel) rfl), Or.inl rfl, tyX0_ok 5 (by decide), (fun _ => rfl), (fun h => by cases h), rfl⟩
theorem fl_X9_313 : FL RX9 313 1 6 0 .int 0 := ⟨RX0, "ChartRoom$Chart", TX0, 10, tyX0, rfl, iu_1, tyX0_ok, nmX0, by decide, rfl, by decide, (uw_of 204 (by decide +kernel) rfl), Or.inl rfl, tyX0_ok 6 (by decide), (fun _ => rfl), (fun h => by cases h), rfl⟩
theorem fl_X9_316 : FL RX9 316 1 7 0 .int 0 := ⟨RX0, "ChartRoom$Chart", TX0, 10, tyX0, rfl, iu_1, tyX0_ok, nmX0, by decide, rfl, by decide, (uw_of 206 (by decide +kernel) rfl), Or.inl rfl, tyX0_ok 7 (by decide), (fun _ => rfl), (fun h => by cases h), rfl⟩
theorem cw_X9_beside : Cond.code yX9_beside cX9_beside 6 (some .long) ∈ UW := (uw_of 900 (by decide +kernel) rfl)
theorem cw_X9_isSheet : Cond.code yX9_isSheet cX9_isSheet 1 (some .boolean) ∈ UW := (uw_of 585 (by decide +kernel) rfl)
theorem cw_X7_hasCells : Cond.code yX7_hasCells cX7_hasCells 4 (some .boolean) ∈ UW := (uw_of 598 (by decide +kernel) rfl)
theorem cw_X7_isEmpty : Cond.code yX7_isEmpty cX7_isEmpty 1 (some .boolean) ∈ UW := (uw_of 594 (by decide +kernel) rfl)
theorem ini_ChartRoom_Sheet : Cond.initialized "ChartRoom$Sheet" ∈ UW := (uw_of 92 (by decide +kernel) rfl)
theorem cb_X7_28 : CBV RX7 28 yX7_isEmpty cX7_isEmpty 1 (some .boolean) 0 8 := ⟨⟨cw_X7_isEmpty, ini_ChartRoom_Sheet, by decide, (uw_of 591 (by decide +kernel) rfl)⟩, (uw_of 592 (by decide +kernel) rfl), (uw_of 593 (by decide +kernel) rfl), by decide, TX7, 3, rfl⟩
theorem cb_X7_32 : CBV RX7 32 yX7_hasCells cX7_hasCells 4 (some .boolean) 2 8 := ⟨⟨cw_X7_hasCells, ini_ChartRoom_Sheet, by decide, (uw_of 595 (by decide +kernel) rfl)⟩, (uw_of 596 (by decide +kernel) rfl), (uw_of 597 (by decide +kernel) rfl), by decide, TX7, 3, rfl⟩
theorem cw_X7_faultOfTaking : Cond.code yX7_faultOfTaking cX7_faultOfTaking 5 (some .int) ∈ UW := (uw_of 590 (by decide +kernel) rfl)
theorem cb_X9_150 : CBS RX9 150 yX9_isSheet cX9_isSheet 1 (some .boolean) 1 := ⟨⟨cw_X9_isSheet, ini_ChartRoom, by decide, (uw_of 583 (by decide +kernel) rfl)⟩, (uw_of 584 (by decide +kernel) rfl)⟩
theorem fl_X9_67 : FL RX9 67 10 10 2 (.array (.object "ChartRoom$Sheet")) 1 := ⟨RX9, "ChartRoom", TX9, 13, tyX9, rfl, iu_10, tyX9_ok, nmX9, by decide, rfl, by decide, (uw_of 298 (by decide +kernel) rfl), Or.inl rfl, tyX9_ok 10 (by decide), (fun h => by cases h), (fun _ => ⟨rfl, rfl⟩), rfl⟩
theorem cb_X9_155 : CBV RX9 155 yX7_faultOfTaking cX7_faultOfTaking 5 (some .int) 3 8 := ⟨⟨cw_X7_faultOfTaking, ini_ChartRoom_Sheet, by decide, (uw_of 587 (by decide +kernel) rfl)⟩, (uw_of 588 (by decide +kernel) rfl), (uw_of 589 (by decide +kernel) rfl), by decide, TX7, 3, rfl⟩
theorem fl_X9_162 : FL RX9 162 8 2 2 (.array .int) 2 := ⟨RX7, "ChartRoom$Sheet", TX7, 3, tyX7, rfl, iu_8, tyX7_ok, nmX7, by decide, rfl, by decide, (uw_of 280 (by decide +kernel) rfl), Or.inl rfl, tyX7_ok 2 (by decide), (fun h => by cases h), (fun h => by cases h), rfl⟩
theorem cw_X9_cell : Cond.code yX9_cell cX9_cell 4 (some .long) ∈ UW := (uw_of 1015 (by decide +kernel) rfl)
theorem cb_X9_341 : CBV RX9 341 yX7_isEmpty cX7_isEmpty 1 (some .boolean) 0 8 := ⟨⟨cw_X7_isEmpty, ini_ChartRoom_Sheet, by decide, (uw_of 999 (by decide +kernel) rfl)⟩, (uw_of 592 (by decide +kernel) rfl), (uw_of 593 (by decide +kernel) rfl), by decide, TX7, 3, rfl⟩
theorem fl_X9_348 : FL RX9 348 8 0 0 .int 0 := ⟨RX7, "ChartRoom$Sheet", TX7, 3, tyX7, rfl, iu_8, tyX7_ok, nmX7, by decide, rfl, by decide, (uw_of 277 (by decide +kernel) rfl), Or.inl rfl, tyX7_ok 0 (by decide), (fun _ => rfl), (fun h => by cases h), rfl⟩
theorem cb_X9_354 : CBV RX9 354 yX7_hasCells cX7_hasCells 4 (some .boolean) 2 8 := ⟨⟨cw_X7_hasCells, ini_ChartRoom_Sheet, by decide, (uw_of 1020 (by decide +kernel) rfl)⟩, (uw_of 596 (by decide +kernel) rfl), (uw_of 597 (by decide +kernel) rfl), by decide, TX7, 3, rfl⟩
theorem cw_X9_copy : Cond.code yX9_copy cX9_copy 8 (some .int) ∈ UW := (uw_of 1019 (by decide +kernel) rfl)
theorem cw_X9_countKept : Cond.code yX9_countKept cX9_countKept 3 (some .int) ∈ UW := (uw_of 1064 (by decide +kernel) rfl)
theorem fl_X9_165 : FL RX9 165 2 1 2 (.object "java/util/ArrayList") 2 := ⟨RX1, "ChartRoom$Desk", TX1, 9, tyX1, rfl, iu_2, tyX1_ok, nmX1, by decide, rfl, by decide, (uw_of 150 (by decide +kernel) rfl), Or.inl rfl, tyX1_ok 1 (by decide), (fun h => by cases h), (fun h => by cases h), rfl⟩
theorem cw_X9_isWire : Cond.code yX9_isWire cX9_isWire 2 (some .boolean) ∈ UW := (uw_of 663 (by decide +kernel) rfl)
theorem cb_X9_179 : CBV RX9 179 yX9_isWire cX9_isWire 2 (some .boolean) 1 10 := ⟨⟨cw_X9_isWire, ini_ChartRoom, by decide, (uw_of 660 (by decide +kernel) rfl)⟩, (uw_of 662 (by decide +kernel) rfl), (uw_of 15 (by decide +kernel) rfl), by decide, TX9, 13, rfl⟩
theorem fl_X9_191 : FL RX9 191 9 4 2 (.array .int) 2 := ⟨RX8, "ChartRoom$Wire", TX8, 6, tyX8, rfl, iu_9, tyX8_ok, nmX8, by decide, rfl, by decide, (uw_of 639 (by decide +kernel) rfl), Or.inl rfl, tyX8_ok 4 (by decide), (fun h => by cases h), (fun h => by cases h), rfl⟩
theorem cw_X9_digit : Cond.code yX9_digit cX9_digit 5 (some .int) ∈ UW := (uw_of 667 (by decide +kernel) rfl)
theorem cw_X9_doubted : Cond.code yX9_doubted cX9_doubted 1 (some .int) ∈ UW := (uw_of 711 (by decide +kernel) rfl)
theorem fl_X9_36 : FL RX9 36 10 4 2 (.object "java/util/ArrayList") 0 := ⟨RX9, "ChartRoom", TX9, 13, tyX9, rfl, iu_10, tyX9_ok, nmX9, by decide, rfl, by decide, (uw_of 292 (by decide +kernel) rfl), Or.inl rfl, tyX9_ok 4 (by decide), (fun _ => rfl), (fun h => by cases h), rfl⟩
theorem fl_X9_32 : FL RX9 32 10 3 2 (.object "java/util/ArrayList") 0 := ⟨RX9, "ChartRoom", TX9, 13, tyX9, rfl, iu_10, tyX9_ok, nmX9, by decide, rfl, by decide, (uw_of 291 (by decide +kernel) rfl), Or.inl rfl, tyX9_ok 3 (by decide), (fun _ => rfl), (fun h => by cases h), rfl⟩
theorem cw_X9_frontsOf : Cond.code yX9_frontsOf cX9_frontsOf 2 ((some (.object "java/util/ArrayList"))) ∈ UW := (uw_of 787 (by decide +kernel) rfl)
theorem cw_X5_slotOf : Cond.code yX5_slotOf cX5_slotOf 3 (some .int) ∈ UW := (uw_of 773 (by decide +kernel) rfl)
theorem ini_ChartRoom_Pen : Cond.initialized "ChartRoom$Pen" ∈ UW := (uw_of 90 (by decide +kernel) rfl)
theorem cb_X5_44 : CBS RX5 44 yX5_slotOf cX5_slotOf 3 (some .int) 3 := ⟨⟨cw_X5_slotOf, ini_ChartRoom_Pen, by decide, (uw_of 771 (by decide +kernel) rfl)⟩, (uw_of 772 (by decide +kernel) rfl)⟩
theorem cb_X5_27 : CNS RX5 27 yX9_isPlace "ChartRoom" cX9_isPlace 2 (some .boolean) 2 := ⟨⟨cw_X9_isPlace, ini_ChartRoom, by decide, (uw_of 760 (by decide +kernel) rfl)⟩, (uw_of 336 (by decide +kernel) rfl)⟩
theorem cb_X5_67 : CBS RX5 67 yJ9_abs_0f7a4 cJ9_abs_0f7a4 1 (some .int) 1 := ⟨⟨cw_J9_abs_0f7a4, ini_java_lang_Math, by decide, (uw_of 783 (by decide +kernel) rfl)⟩, (uw_of 545 (by decide +kernel) rfl)⟩
theorem cw_X5_costBy : Cond.code yX5_costBy cX5_costBy 7 (some .int) ∈ UW := (uw_of 782 (by decide +kernel) rfl)
theorem cb_X5_60 : CNS RX5 60 yX9_isWithin "ChartRoom" cX9_isWithin 3 (some .boolean) 3 := ⟨⟨cw_X9_isWithin, ini_ChartRoom, by decide, (uw_of 778 (by decide +kernel) rfl)⟩, (uw_of 339 (by decide +kernel) rfl)⟩
theorem cb_X5_64 : CBV RX5 64 yX5_costBy cX5_costBy 7 (some .int) 4 6 := ⟨⟨cw_X5_costBy, ini_ChartRoom_Pen, by decide, (uw_of 779 (by decide +kernel) rfl)⟩, (uw_of 781 (by decide +kernel) rfl), (uw_of 20 (by decide +kernel) rfl), by decide, TX5, 3, rfl⟩
theorem cb_X5_37 : CBS RX5 37 yJ9_min_7cf53 cJ9_min_7cf53 2 (some .int) 2 := ⟨⟨cw_J9_min_7cf53, ini_java_lang_Math, by decide, (uw_of 762 (by decide +kernel) rfl)⟩, (uw_of 427 (by decide +kernel) rfl)⟩
theorem cw_X5_leastCost : Cond.code yX5_leastCost cX5_leastCost 7 (some .int) ∈ UW := (uw_of 777 (by decide +kernel) rfl)
theorem cb_X5_56 : CBV RX5 56 yX5_leastCost cX5_leastCost 7 (some .int) 4 6 := ⟨⟨cw_X5_leastCost, ini_ChartRoom_Pen, by decide, (uw_of 774 (by decide +kernel) rfl)⟩, (uw_of 776 (by decide +kernel) rfl), (uw_of 19 (by decide +kernel) rfl), by decide, TX5, 3, rfl⟩
theorem cw_X5_weigh : Cond.code yX5_weigh cX5_weigh 6 (none) ∈ UW := (uw_of 770 (by decide +kernel) rfl)
theorem cb_X5_40 : CBV RX5 40 yX5_weigh cX5_weigh 6 (none) 2 6 := ⟨⟨cw_X5_weigh, ini_ChartRoom_Pen, by decide, (uw_of 767 (by decide +kernel) rfl)⟩, (uw_of 769 (by decide +kernel) rfl), (uw_of 18 (by decide +kernel) rfl), by decide, TX5, 3, rfl⟩
theorem cw_X5_bestStart : Cond.code yX5_bestStart cX5_bestStart 7 (some .int) ∈ UW := (uw_of 766 (by decide +kernel) rfl)
theorem fl_X3_7 : FL RX3 7 4 0 0 .int 1 := ⟨RX3, "ChartRoom$Front", TX3, 5, tyX3, rfl, iu_4, tyX3_ok, nmX3, by decide, rfl, by decide, (uw_of 802 (by decide +kernel) rfl), Or.inl rfl, tyX3_ok 0 (by decide), (fun h => by cases h), (fun _ => ⟨rfl, rfl⟩), rfl⟩
theorem fl_X3_13 : FL RX3 13 4 1 0 .int 1 := ⟨RX3, "ChartRoom$Front", TX3, 5, tyX3, rfl, iu_4, tyX3_ok, nmX3, by decide, rfl, by decide, (uw_of 805 (by decide +kernel) rfl), Or.inl rfl, tyX3_ok 1 (by decide), (fun h => by cases h), (fun _ => ⟨rfl, rfl⟩), rfl⟩
theorem fl_X3_16 : FL RX3 16 4 2 0 .int 1 := ⟨RX3, "ChartRoom$Front", TX3, 5, tyX3, rfl, iu_4, tyX3_ok, nmX3, by decide, rfl, by decide, (uw_of 808 (by decide +kernel) rfl), Or.inl rfl, tyX3_ok 2 (by decide), (fun h => by cases h), (fun _ => ⟨rfl, rfl⟩), rfl⟩
theorem fl_X3_19 : FL RX3 19 4 3 0 .int 1 := ⟨RX3, "ChartRoom$Front", TX3, 5, tyX3, rfl, iu_4, tyX3_ok, nmX3, by decide, rfl, by decide, (uw_of 811 (by decide +kernel) rfl), Or.inl rfl, tyX3_ok 3 (by decide), (fun h => by cases h), (fun _ => ⟨rfl, rfl⟩), rfl⟩
theorem fl_X3_22 : FL RX3 22 4 4 2 (.array .int) 1 := ⟨RX3, "ChartRoom$Front", TX3, 5, tyX3, rfl, iu_4, tyX3_ok, nmX3, by decide, rfl, by decide, (uw_of 813 (by decide +kernel) rfl), Or.inl rfl, tyX3_ok 4 (by decide), (fun h => by cases h), (fun _ => ⟨rfl, rfl⟩), rfl⟩
theorem cw_X3_init : Cond.code yX3_init cX3_init 6 (none) ∈ UW := (uw_of 800 (by decide +kernel) rfl)
theorem cw_X5_bestChange : Cond.code yX5_bestChange cX5_bestChange 8 (some .int) ∈ UW := (uw_of 795 (by decide +kernel) rfl)
theorem nw_X5_51 : NWF RX5 51 4 5 := ⟨RX3, TX3, tyX3, rfl, iu_4, tyX3_ok, rfl, by decide, (uw_of 796 (by decide +kernel) rfl), (uw_of 797 (by decide +kernel) rfl), (uw_of 103 (by decide +kernel) rfl), by decide⟩
theorem ini_ChartRoom_Front : Cond.initialized "ChartRoom$Front" ∈ UW := (uw_of 103 (by decide +kernel) rfl)
theorem cb_X5_53 : CBI RX5 53 yX3_init cX3_init 6 5 := ⟨⟨cw_X3_init, ini_ChartRoom_Front, by decide, (uw_of 798 (by decide +kernel) rfl)⟩, (uw_of 799 (by decide +kernel) rfl), rfl⟩
theorem cb_X5_48 : CBV RX5 48 yX5_bestChange cX5_bestChange 8 (some .int) 3 6 := ⟨⟨cw_X5_bestChange, ini_ChartRoom_Pen, by decide, (uw_of 792 (by decide +kernel) rfl)⟩, (uw_of 794 (by decide +kernel) rfl), (uw_of 22 (by decide +kernel) rfl), by decide, TX5, 3, rfl⟩
theorem cw_X5_drawn : Cond.code yX5_drawn cX5_drawn 9 ((some (.object "ChartRoom$Front"))) ∈ UW := (uw_of 791 (by decide +kernel) rfl)
theorem cb_X5_21 : CBS RX5 21 yJ7_fill_53178 cJ7_fill_53178 4 (none) 2 := ⟨⟨cw_J7_fill_53178, ini_java_util_Arrays, by decide, (uw_of 757 (by decide +kernel) rfl)⟩, (uw_of 758 (by decide +kernel) rfl)⟩
theorem cb_X5_31 : CBS RX5 31 yJ9_max_7cf53 cJ9_max_7cf53 2 (some .int) 2 := ⟨⟨cw_J9_max_7cf53, ini_java_lang_Math, by decide, (uw_of 761 (by decide +kernel) rfl)⟩, (uw_of 395 (by decide +kernel) rfl)⟩
theorem cw_X5_takesGates : Cond.code yX5_takesGates cX5_takesGates 8 (some .boolean) ∈ UW := (uw_of 756 (by decide +kernel) rfl)
theorem fl_X9_42 : FL RX9 42 10 5 2 (.object "ChartRoom$Pen") 1 := ⟨RX9, "ChartRoom", TX9, 13, tyX9, rfl, iu_10, tyX9_ok, nmX9, by decide, rfl, by decide, (uw_of 293 (by decide +kernel) rfl), Or.inl rfl, tyX9_ok 5 (by decide), (fun h => by cases h), (fun _ => ⟨rfl, rfl⟩), rfl⟩
theorem cb_X9_254 : CBV RX9 254 yX5_takesGates cX5_takesGates 8 (some .boolean) 3 6 := ⟨⟨cw_X5_takesGates, ini_ChartRoom_Pen, by decide, (uw_of 753 (by decide +kernel) rfl)⟩, (uw_of 754 (by decide +kernel) rfl), (uw_of 755 (by decide +kernel) rfl), by decide, TX5, 3, rfl⟩
theorem cb_X9_258 : CBV RX9 258 yX5_bestStart cX5_bestStart 7 (some .int) 2 6 := ⟨⟨cw_X5_bestStart, ini_ChartRoom_Pen, by decide, (uw_of 763 (by decide +kernel) rfl)⟩, (uw_of 764 (by decide +kernel) rfl), (uw_of 765 (by decide +kernel) rfl), by decide, TX5, 3, rfl⟩
theorem cb_X9_261 : CBV RX9 261 yX9_frontsOf cX9_frontsOf 2 ((some (.object "java/util/ArrayList"))) 1 10 := ⟨⟨cw_X9_frontsOf, ini_ChartRoom, by decide, (uw_of 784 (by decide +kernel) rfl)⟩, (uw_of 786 (by decide +kernel) rfl), (uw_of 21 (by decide +kernel) rfl), by decide, TX9, 13, rfl⟩
theorem cb_X9_265 : CBV RX9 265 yX5_drawn cX5_drawn 9 ((some (.object "ChartRoom$Front"))) 4 6 := ⟨⟨cw_X5_drawn, ini_ChartRoom_Pen, by decide, (uw_of 788 (by decide +kernel) rfl)⟩, (uw_of 789 (by decide +kernel) rfl), (uw_of 790 (by decide +kernel) rfl), by decide, TX5, 3, rfl⟩
theorem cb_X9_102 : CBV RX9 102 yJx4a65c_add_9ea2d cJx4a65c_add_9ea2d 2 (some .boolean) 1 0 := ⟨⟨cw_Jx4a65c_add_9ea2d, ini_java_util_ArrayList, by decide, (uw_of 375 (by decide +kernel) rfl)⟩, (uw_of 376 (by decide +kernel) rfl), (uw_of 377 (by decide +kernel) rfl), by decide, TJx4a65c, 3, rfl⟩
theorem cw_X9_draw : Cond.code yX9_draw cX9_draw 12 (some .int) ∈ UW := (uw_of 751 (by decide +kernel) rfl)
abbrev rmX9_isWithin : Room := { frames := 0, cells := 0, slots := 0, locals := 0 }
abbrev rmX9_isPlace : Room := { frames := 1, cells := 0, slots := 0, locals := 21 }
abbrev rmX0_carriedValue : Room := { frames := 2, cells := 0, slots := 0, locals := 42 }
abbrev rmX0_compare : Room := { frames := 3, cells := 0, slots := 0, locals := 66 }
abbrev rmX9_beside : Room := { frames := 6, cells := 0, slots := 0, locals := 141 }
abbrev rmX9_isSheet : Room := { frames := 1, cells := 0, slots := 0, locals := 21 }
abbrev rmX7_hasCells : Room := { frames := 0, cells := 0, slots := 0, locals := 0 }
abbrev rmX7_isEmpty : Room := { frames := 0, cells := 0, slots := 0, locals := 0 }
abbrev rmX7_faultOfTaking : Room := { frames := 1, cells := 0, slots := 0, locals := 23 }
abbrev rmX9_cell : Room := { frames := 2, cells := 0, slots := 0, locals := 47 }
abbrev rmX9_copy : Room := { frames := 2, cells := 0, slots := 0, locals := 41 }
abbrev rmX9_countKept : Room := { frames := 0, cells := 0, slots := 0, locals := 0 }
abbrev rmX9_isWire : Room := { frames := 1, cells := 0, slots := 0, locals := 21 }
abbrev rmX9_digit : Room := { frames := 3, cells := 0, slots := 0, locals := 64 }
abbrev rmX9_doubted : Room := { frames := 6, cells := 0, slots := 0, locals := 141 }
abbrev rmX9_frontsOf : Room := { frames := 0, cells := 0, slots := 0, locals := 0 }
abbrev rmX5_slotOf : Room := { frames := 0, cells := 0, slots := 0, locals := 0 }
abbrev rmX5_costBy : Room := { frames := 2, cells := 0, slots := 0, locals := 42 }
abbrev rmX5_leastCost : Room := { frames := 3, cells := 0, slots := 0, locals := 68 }
abbrev rmX5_weigh : Room := { frames := 4, cells := 0, slots := 0, locals := 94 }
abbrev rmX5_bestStart : Room := { frames := 5, cells := 0, slots := 0, locals := 119 }
abbrev rmX3_init : Room := { frames := 1, cells := 0, slots := 0, locals := 20 }
abbrev rmX5_bestChange : Room := { frames := 3, cells := 0, slots := 0, locals := 68 }
abbrev rmX5_drawn : Room := { frames := 4, cells := 2, slots := 17, locals := 95 }
abbrev rmX5_takesGates : Room := { frames := 2, cells := 0, slots := 0, locals := 42 }
abbrev rmX9_draw : Room := { frames := 8, cells := 3, slots := 57, locals := 228 }
noncomputable def bX9_isWithin_15 (z0 : Int32) : Option Int32 :=
  (o_zb z0).bind fun z15 =>
  some z15
noncomputable def bX9_isWithin_14 : Option Int32 :=
  bX9_isWithin_15 (0 : Int32)
noncomputable def bX9_isWithin_0 (x0 : Int32) (x1 : Int32) (x2 : Int32) : Option Int32 :=
  if x0 < x1 then
    bX9_isWithin_14
  else
    if x2 < x0 then
      bX9_isWithin_14
    else
      bX9_isWithin_15 (1 : Int32)
noncomputable def fX9_isWithin (a0 : Int32) (a1 : Int32) (a2 : Int32) : Option Int32 := bX9_isWithin_0 a0 a1 a2
noncomputable def bX9_isPlace_23 (z0 : Int32) : Option Int32 :=
  (o_zb z0).bind fun z23 =>
  some z23
noncomputable def bX9_isPlace_22 : Option Int32 :=
  bX9_isPlace_23 (0 : Int32)
noncomputable def bX9_isPlace_0 (x0 : Int32) (x1 : Int32) : Option Int32 :=
  (fX9_isBelow x0 (12 : Int32)).bind fun v3 =>
  if v3 = 0 then
    bX9_isPlace_22
  else
    (fX9_isBelow x1 (12 : Int32)).bind fun v12 =>
    if v12 = 0 then
      bX9_isPlace_22
    else
      bX9_isPlace_23 (1 : Int32)
noncomputable def fX9_isPlace (a0 : Int32) (a1 : Int32) : Option Int32 := bX9_isPlace_0 a0 a1
noncomputable def bX0_carriedValue_0 (S : MS) (x0 : Nat) (x1 : Int32) (x2 : Int32) (x3 : Int32) (x4 : Int32) : Option Int32 :=
  (fX9_isPlace (x3 - x1) (x4 - x2)).bind fun v7 =>
  if v7 = 0 then
    some (-9 : Int32)
  else
    (o_gP S x0 1 4).bind fun v17 =>
    (o_ld S v17 12 ((((12 : Int32) * (x4 - x2)) + x3) - x1)).bind fun v31 =>
    some v31
noncomputable def fX0_carriedValue (S : MS) (a0 : Nat) (a1 : Int32) (a2 : Int32) (a3 : Int32) (a4 : Int32) : Option Int32 := bX0_carriedValue_0 S a0 a1 a2 a3 a4
noncomputable def bX0_compare_0 (S : MS) (x0 : Nat) (x1 : Int32) (x2 : Int32) (x3 : Nat) : Option ((Nat × Int32 × Int32 × Nat × Int32 × MS) ⊕ MS) :=
  (o_sI S x0 1 5 (0 : Int32)).bind fun S2 =>
  (o_sI S2 x0 1 6 (0 : Int32)).bind fun S7 =>
  (o_sI S7 x0 1 7 (0 : Int32)).bind fun S12 =>
  some (.inl (x0, x1, x2, x3, (0 : Int32), S12))
noncomputable def bX0_compare_105 (S : MS) (x0 : Nat) (x1 : Int32) (x2 : Int32) (x3 : Nat) (x4 : Int32) : Option ((Nat × Int32 × Int32 × Nat × Int32 × MS) ⊕ MS) :=
  (some (x4 + 1)).bind fun v105 =>
  some (.inl (x0, x1, x2, x3, v105, S))
noncomputable def bX0_compare_18 (S : MS) (x0 : Nat) (x1 : Int32) (x2 : Int32) (x3 : Nat) (x4 : Int32) : Option ((Nat × Int32 × Int32 × Nat × Int32 × MS) ⊕ MS) :=
  if (144 : Int32) ≤ x4 then
    some (.inr S)
  else
    (o_is S x0 1).bind fun _ =>
    (fX0_carriedValue S x0 x1 x2 (x4 - x4 / (12 : Int32) * (12 : Int32)) (x4 / (12 : Int32))).bind fun v39 =>
    if v39 = (-9 : Int32) then
      bX0_compare_105 S x0 x1 x2 x3 x4
    else
      (o_ld S x3 12 x4).bind fun v54 =>
      if v54 = (-9 : Int32) then
        bX0_compare_105 S x0 x1 x2 x3 x4
      else
        (o_gI S x0 1 5).bind fun v62 =>
        (o_sI S x0 1 5 (v62 + (1 : Int32))).bind fun S67 =>
        (o_gI S67 x0 1 6).bind fun v72 =>
        (o_ld S67 x3 12 x4).bind fun v80 =>
        (fJ9_abs_0f7a4 (v39 - v80)).bind fun v82 =>
        (o_sI S67 x0 1 6 (v72 + v82)).bind fun S86 =>
        (o_gI S86 x0 1 7).bind fun v91 =>
        (o_ld S86 x3 12 x4).bind fun v99 =>
        (o_sI S86 x0 1 7 (v91 + (v39 - v99))).bind fun S102 =>
        bX0_compare_105 S102 x0 x1 x2 x3 x4
noncomputable def sX0_compare : (Nat × Int32 × Int32 × Nat × Int32 × MS) → Option ((Nat × Int32 × Int32 × Nat × Int32 × MS) ⊕ MS) := (fun t => bX0_compare_18 t.2.2.2.2.2 t.1 t.2.1 t.2.2.1 t.2.2.2.1 t.2.2.2.2.1)
noncomputable def hX0_compare_18 (S : MS) (x0 : Nat) (x1 : Int32) (x2 : Int32) (x3 : Nat) (x4 : Int32) : Option MS := lim (sX0_compare) (x0, x1, x2, x3, x4, S)
theorem qX0_compare_18 (S : MS) (x0 : Nat) (x1 : Int32) (x2 : Int32) (x3 : Nat) (x4 : Int32) : hX0_compare_18 S x0 x1 x2 x3 x4 = fin (sX0_compare) (bX0_compare_18 S x0 x1 x2 x3 x4) := lim_eq _ _
noncomputable def fX0_compare (S : MS) (a0 : Nat) (a1 : Int32) (a2 : Int32) (a3 : Nat) : Option MS := fin (sX0_compare) (bX0_compare_0 S a0 a1 a2 a3)
noncomputable def bX9_beside_22 (S : MS) : Option (Int64 × MS) :=
  some ((-9223372036854775808 : Int64), S)
noncomputable def bX9_beside_53 (S : MS) : Option (Int64 × MS) :=
  some ((-9223372036854775808 : Int64), S)
noncomputable def bX9_beside_0 (S : MS) (x0 : Nat) (x1 : Int32) (x2 : Int32) (x3 : Int32) (x4 : Int32) : Option (Int64 × MS) :=
  (fX9_isWithin x1 (-11 : Int32) (11 : Int32)).bind fun v5 =>
  if v5 = 0 then
    bX9_beside_22 S
  else
    (fX9_isWithin x2 (-11 : Int32) (11 : Int32)).bind fun v16 =>
    if v16 = 0 then
      bX9_beside_22 S
    else
      (fX9_isWithin x4 (0 : Int32) (2 : Int32)).bind fun v30 =>
      if v30 = 0 then
        bX9_beside_53 S
      else
        (fX9_isBelow x3 (4 : Int32)).bind fun v38 =>
        if v38 = 0 then
          bX9_beside_53 S
        else
          (o_gP S x0 10 8).bind fun v45 =>
          (o_ld S v45 13 x3).bind fun v49 =>
          if v49 = 0 then
            bX9_beside_53 S
          else
            (o_is S x0 10).bind fun _ =>
            b2 (fX9_settledChart S x0) fun v58 S58 =>
            (o_gP S58 x0 10 7).bind fun v68 =>
            (o_ldP S58 v68 16 x3).bind fun v72 =>
            (o_is S58 v58 1).bind fun _ =>
            (fX0_compare S58 v58 x1 x2 v72).bind fun S73 =>
            if x4 = (0 : Int32) then
              (o_gI S73 v58 1 5).bind fun v106 =>
              some ((v106.toInt64), S73)
            else
            if x4 = (1 : Int32) then
              (o_gI S73 v58 1 6).bind fun v113 =>
              some ((v113.toInt64), S73)
            else
            (o_gI S73 v58 1 7).bind fun v120 =>
            some ((v120.toInt64), S73)
noncomputable def fX9_beside (S : MS) (a0 : Nat) (a1 : Int32) (a2 : Int32) (a3 : Int32) (a4 : Int32) : Option (Int64 × MS) := bX9_beside_0 S a0 a1 a2 a3 a4
noncomputable def bX9_isSheet_0 (x0 : Int32) : Option Int32 :=
  (fX9_isBelow x0 (4 : Int32)).bind fun v2 =>
  (o_zb v2).bind fun z5 =>
  some z5
noncomputable def fX9_isSheet (a0 : Int32) : Option Int32 := bX9_isSheet_0 a0
noncomputable def bX7_hasCells_28 (S : MS) (z0 : Int32) : Option Int32 :=
  (o_zb z0).bind fun z28 =>
  some z28
noncomputable def bX7_hasCells_27 (S : MS) : Option Int32 :=
  bX7_hasCells_28 S (0 : Int32)
noncomputable def bX7_hasCells_0 (S : MS) (x0 : Nat) (x1 : Int32) (x2 : Int64) : Option Int32 :=
  if x1 < 0 then
    bX7_hasCells_27 S
  else
    if (lg_cmp x2 (0 : Int64)) < 0 then
      bX7_hasCells_27 S
    else
      (o_gI S x0 8 1).bind fun v15 =>
      if 0 < (lg_cmp ((x1.toInt64) + x2) (v15.toInt64)) then
        bX7_hasCells_27 S
      else
        bX7_hasCells_28 S (1 : Int32)
noncomputable def fX7_hasCells (S : MS) (a0 : Nat) (a1 : Int32) (a2 : Int64) : Option Int32 := bX7_hasCells_0 S a0 a1 a2
noncomputable def bX7_isEmpty_13 (S : MS) (z0 : Int32) : Option Int32 :=
  (o_zb z0).bind fun z13 =>
  some z13
noncomputable def bX7_isEmpty_0 (S : MS) (x0 : Nat) : Option Int32 :=
  (o_gI S x0 8 0).bind fun v1 =>
  if v1 = (-1 : Int32) then
    bX7_isEmpty_13 S (1 : Int32)
  else
    bX7_isEmpty_13 S (0 : Int32)
noncomputable def fX7_isEmpty (S : MS) (a0 : Nat) : Option Int32 := bX7_isEmpty_0 S a0
noncomputable def bX7_faultOfTaking_48 (S : MS) (z0 : Int32) : Option Int32 :=
  some z0
noncomputable def bX7_faultOfTaking_17 (S : MS) (x0 : Nat) (x2 : Int32) (x3 : Int64) : Option Int32 :=
  (o_is S x0 8).bind fun _ =>
  (fX7_isEmpty S x0).bind fun v18 =>
  if v18 = 0 then
    if 0 ≤ (lg_cmp x3 (0 : Int64)) then
      (o_is S x0 8).bind fun _ =>
      (fX7_hasCells S x0 x2 x3).bind fun v37 =>
      if v37 = 0 then
        bX7_faultOfTaking_48 S (3 : Int32)
      else
        bX7_faultOfTaking_48 S (0 : Int32)
    else
      some (4 : Int32)
  else
    some (1 : Int32)
noncomputable def bX7_faultOfTaking_0 (S : MS) (x0 : Nat) (x1 : Int32) (x2 : Int32) (x3 : Int64) : Option Int32 :=
  (o_is S x0 8).bind fun _ =>
  (fX7_isEmpty S x0).bind fun v1 =>
  if v1 = 0 then
    (o_gI S x0 8 0).bind fun v8 =>
    if v8 = x1 then
      bX7_faultOfTaking_17 S x0 x2 x3
    else
      some (2 : Int32)
  else
    bX7_faultOfTaking_17 S x0 x2 x3
noncomputable def fX7_faultOfTaking (S : MS) (a0 : Nat) (a1 : Int32) (a2 : Int32) (a3 : Int64) : Option Int32 := bX7_faultOfTaking_0 S a0 a1 a2 a3
noncomputable def bX9_cell_20 (S : MS) : Option (Int64 × MS) :=
  some ((-9223372036854775808 : Int64), S)
noncomputable def bX9_cell_0 (S : MS) (x0 : Nat) (x1 : Int32) (x2 : Int32) (x3 : Int32) : Option (Int64 × MS) :=
  (o_sI S x0 10 12 (0 : Int32)).bind fun S2 =>
  (fX9_isSheet x1).bind fun v6 =>
  if v6 = 0 then
    bX9_cell_20 S2
  else
    (fX9_isBelow x3 (3 : Int32)).bind fun v14 =>
    if v14 = 0 then
      bX9_cell_20 S2
    else
      (o_gP S2 x0 10 10).bind fun v26 =>
      (o_ldP S2 v26 14 x1).bind fun v30 =>
      (o_is S2 v30 8).bind fun _ =>
      (fX7_faultOfTaking S2 v30 x3 x2 (1 : Int64)).bind fun v34 =>
      (o_sI S2 x0 10 12 v34).bind fun S37 =>
      (o_gI S37 x0 10 12).bind fun v41 =>
      if v41 = 0 then
        (o_gP S37 x0 10 10).bind fun v52 =>
        (o_ldP S37 v52 14 x1).bind fun v56 =>
        (o_gP S37 v56 8 2).bind fun v57 =>
        (o_ld S37 v57 12 x2).bind fun v61 =>
        some ((v61.toInt64), S37)
      else
        some ((-9223372036854775808 : Int64), S37)
noncomputable def fX9_cell (S : MS) (a0 : Nat) (a1 : Int32) (a2 : Int32) (a3 : Int32) : Option (Int64 × MS) := bX9_cell_0 S a0 a1 a2 a3
noncomputable def bX9_copy_19 (S : MS) : Option (Int32 × MS) :=
  some ((-1 : Int32), S)
noncomputable def bX9_copy_53 (S : MS) (x0 : Nat) : Option (Int32 × MS) :=
  (o_is S x0 10).bind fun _ =>
  b2 (fX9_comeTo S x0 (1 : Int32)) fun v55 S55 =>
  some (v55, S55)
noncomputable def bX9_copy_103 (S : MS) (x0 : Nat) : Option (Int32 × MS) :=
  (o_is S x0 10).bind fun _ =>
  b2 (fX9_comeTo S x0 (3 : Int32)) fun v105 S105 =>
  some (v105, S105)
noncomputable def bX9_copy_0 (S : MS) (x0 : Nat) (x1 : Int32) (x2 : Int32) (x3 : Int32) (x4 : Int32) (x5 : Int32) : Option (Int32 × MS) :=
  (o_sI S x0 10 12 (0 : Int32)).bind fun S2 =>
  (fX9_isSheet x1).bind fun v6 =>
  if v6 = 0 then
    bX9_copy_19 S2
  else
    (fX9_isSheet x3).bind fun v13 =>
    if v13 = 0 then
      bX9_copy_19 S2
    else
      (o_gP S2 x0 10 10).bind fun v22 =>
      (o_ldP S2 v22 14 x1).bind fun v26 =>
      (o_gP S2 x0 10 10).bind fun v30 =>
      (o_ldP S2 v30 14 x3).bind fun v34 =>
      (o_is S2 v26 8).bind fun _ =>
      (fX7_isEmpty S2 v26).bind fun v39 =>
      if v39 = 0 then
        (o_is S2 v34 8).bind fun _ =>
        (fX7_isEmpty S2 v34).bind fun v47 =>
        if v47 = 0 then
          (o_gI S2 v26 8 0).bind fun v61 =>
          (o_gI S2 v34 8 0).bind fun v66 =>
          if v61 = v66 then
            (o_is S2 v26 8).bind fun _ =>
            (fX7_hasCells S2 v26 x2 (x5.toInt64)).bind fun v84 =>
            if v84 = 0 then
              bX9_copy_103 S2 x0
            else
              (o_is S2 v34 8).bind fun _ =>
              (fX7_hasCells S2 v34 x4 (x5.toInt64)).bind fun v97 =>
              if v97 = 0 then
                bX9_copy_103 S2 x0
              else
                (o_gP S2 v26 8 2).bind fun v111 =>
                (o_gP S2 v34 8 2).bind fun v117 =>
                (o_cpy S2 v111 x2 v117 x4 x5).bind fun S124 =>
                some (x5, S124)
          else
            (o_is S2 x0 10).bind fun _ =>
            b2 (fX9_comeTo S2 x0 (2 : Int32)) fun v74 S74 =>
            some (v74, S74)
        else
          bX9_copy_53 S2 x0
      else
        bX9_copy_53 S2 x0
noncomputable def fX9_copy (S : MS) (a0 : Nat) (a1 : Int32) (a2 : Int32) (a3 : Int32) (a4 : Int32) (a5 : Int32) : Option (Int32 × MS) := bX9_copy_0 S a0 a1 a2 a3 a4 a5
noncomputable def bX9_countKept_0 (S : MS) (x0 : Nat) : Option ((Nat × Int32 × Int32) ⊕ Int32) :=
  some (.inl (x0, (0 : Int32), (0 : Int32)))
noncomputable def bX9_countKept_21 (S : MS) (x0 : Nat) (x1 : Int32) (x2 : Int32) : Option ((Nat × Int32 × Int32) ⊕ Int32) :=
  (some (x2 + 1)).bind fun v21 =>
  some (.inl (x0, x1, v21))
noncomputable def bX9_countKept_4 (S : MS) (x0 : Nat) (x1 : Int32) (x2 : Int32) : Option ((Nat × Int32 × Int32) ⊕ Int32) :=
  if (4 : Int32) ≤ x2 then
    some (.inr x1)
  else
    (o_gP S x0 10 8).bind fun v10 =>
    (o_ld S v10 13 x2).bind fun v14 =>
    if v14 = 0 then
      bX9_countKept_21 S x0 x1 x2
    else
      (some (x1 + 1)).bind fun v18 =>
      bX9_countKept_21 S x0 v18 x2
noncomputable def sX9_countKept (S : MS) : (Nat × Int32 × Int32) → Option ((Nat × Int32 × Int32) ⊕ Int32) := (fun t => bX9_countKept_4 S t.1 t.2.1 t.2.2)
noncomputable def hX9_countKept_4 (S : MS) (x0 : Nat) (x1 : Int32) (x2 : Int32) : Option Int32 := lim (sX9_countKept S) (x0, x1, x2)
theorem qX9_countKept_4 (S : MS) (x0 : Nat) (x1 : Int32) (x2 : Int32) : hX9_countKept_4 S x0 x1 x2 = fin (sX9_countKept S) (bX9_countKept_4 S x0 x1 x2) := lim_eq _ _
noncomputable def fX9_countKept (S : MS) (a0 : Nat) : Option Int32 := fin (sX9_countKept S) (bX9_countKept_0 S a0)
noncomputable def bX9_isWire_0 (S : MS) (x0 : Nat) (x1 : Int32) : Option Int32 :=
  (o_gP S x0 10 0).bind fun v2 =>
  (o_gP S v2 2 1).bind fun v5 =>
  (o_is S v5 0).bind fun _ =>
  (fJx4a65c_size_8abf5 S v5).bind fun v8 =>
  (fX9_isBelow x1 v8).bind fun v11 =>
  (o_zb v11).bind fun z14 =>
  some z14
noncomputable def fX9_isWire (S : MS) (a0 : Nat) (a1 : Int32) : Option Int32 := bX9_isWire_0 S a0 a1
noncomputable def bX9_digit_26 (S : MS) : Option Int32 :=
  some (-2 : Int32)
noncomputable def bX9_digit_66 (S : MS) (z0 : Int32) : Option Int32 :=
  some z0
noncomputable def bX9_digit_0 (S : MS) (x0 : Nat) (x1 : Int32) (x2 : Int32) (x3 : Int32) : Option Int32 :=
  (o_is S x0 10).bind fun _ =>
  (fX9_isWire S x0 x1).bind fun v2 =>
  if v2 = 0 then
    some (-1 : Int32)
  else
    (fX9_isBelow x2 (3 : Int32)).bind fun v12 =>
    if v12 = 0 then
      bX9_digit_26 S
    else
      (fX9_isBelow x3 (5 : Int32)).bind fun v20 =>
      if v20 = 0 then
        bX9_digit_26 S
      else
        (o_gP S x0 10 0).bind fun v30 =>
        (o_gP S v30 2 1).bind fun v33 =>
        (o_is S v33 0).bind fun _ =>
        (fJx4a65c_get_915e3 S v33 x1).bind fun v37 =>
        (o_is S v37 9).bind fun v40 =>
        (o_gP S v40 9 4).bind fun v43 =>
        (o_ld S v43 12 (((5 : Int32) * x2) + x3)).bind fun v51 =>
        if 0 ≤ v51 then
          bX9_digit_66 S v51
        else
          bX9_digit_66 S (-9 : Int32)
noncomputable def fX9_digit (S : MS) (a0 : Nat) (a1 : Int32) (a2 : Int32) (a3 : Int32) : Option Int32 := bX9_digit_0 S a0 a1 a2 a3
noncomputable def bX9_doubted_0 (S : MS) (x0 : Nat) : Option (Int32 × MS) :=
  (o_is S x0 10).bind fun _ =>
  b2 (fX9_settledChart S x0) fun v1 S1 =>
  (o_gI S1 v1 1 3).bind fun v4 =>
  some (v4, S1)
noncomputable def fX9_doubted (S : MS) (a0 : Nat) : Option (Int32 × MS) := bX9_doubted_0 S a0
noncomputable def bX9_frontsOf_15 (S : MS) (z0 : Nat) : Option Nat :=
  some z0
noncomputable def bX9_frontsOf_0 (S : MS) (x0 : Nat) (x1 : Int32) : Option Nat :=
  if x1 = 0 then
    (o_gP S x0 10 3).bind fun v5 =>
    bX9_frontsOf_15 S v5
  else
    (o_gP S x0 10 4).bind fun v12 =>
    bX9_frontsOf_15 S v12
noncomputable def fX9_frontsOf (S : MS) (a0 : Nat) (a1 : Int32) : Option Nat := bX9_frontsOf_0 S a0 a1
noncomputable def bX5_slotOf_0 (x0 : Int32) (x1 : Int32) (x2 : Int32) : Option Int32 :=
  some (((6 : Int32) * (((12 : Int32) * x1) + x0)) + x2)
noncomputable def fX5_slotOf (a0 : Int32) (a1 : Int32) (a2 : Int32) : Option Int32 := bX5_slotOf_0 a0 a1 a2
noncomputable def bX5_costBy_39 (S : MS) (x0 : Nat) (x1 : Int32) (x4 : Int32) (x5 : Int32) (z0 : Int32) : Option Int32 :=
  (o_gP S x0 6 2).bind fun v44 =>
  (fX5_slotOf (x1 + (1 : Int32)) x5 x4).bind fun v54 =>
  (o_ld S v44 12 v54).bind fun v57 =>
  some (z0 + v57)
noncomputable def bX5_costBy_0 (S : MS) (x0 : Nat) (x1 : Int32) (x2 : Int32) (x3 : Int32) (x4 : Int32) : Option Int32 :=
  (some (((x2 + x4) - (2 : Int32)))).bind fun v6 =>
  (fX9_isPlace (x1 + (1 : Int32)) v6).bind fun v13 =>
  if v13 = 0 then
    some (1000 : Int32)
  else
    if x3 = (5 : Int32) then
      bX5_costBy_39 S x0 x1 x4 v6 (0 : Int32)
    else
      (fJ9_abs_0f7a4 (x4 - x3)).bind fun v36 =>
      bX5_costBy_39 S x0 x1 x4 v6 v36
noncomputable def fX5_costBy (S : MS) (a0 : Nat) (a1 : Int32) (a2 : Int32) (a3 : Int32) (a4 : Int32) : Option Int32 := bX5_costBy_0 S a0 a1 a2 a3 a4
noncomputable def bX5_leastCost_0 (S : MS) (x0 : Nat) (x1 : Int32) (x2 : Int32) (x3 : Int32) (x4 : Int32) : Option ((Nat × Int32 × Int32 × Int32 × Int32 × Int32) ⊕ Int32) :=
  (o_gP S x0 6 0).bind fun v2 =>
  (o_ld S v2 12 x1).bind fun v6 =>
  (o_gP S x0 6 1).bind fun v8 =>
  (o_ld S v8 12 x1).bind fun v12 =>
  (fX9_isWithin x2 v6 v12).bind fun v13 =>
  if v13 = 0 then
    some (.inr (1000 : Int32))
  else
    if x1 = x4 then
      some (.inr (0 : Int32))
    else
      some (.inl (x0, x1, x2, x3, (1000 : Int32), (0 : Int32)))
noncomputable def bX5_leastCost_39 (S : MS) (x0 : Nat) (x1 : Int32) (x2 : Int32) (x3 : Int32) (x5 : Int32) (x6 : Int32) : Option ((Nat × Int32 × Int32 × Int32 × Int32 × Int32) ⊕ Int32) :=
  if (5 : Int32) ≤ x6 then
    some (.inr x5)
  else
    (o_is S x0 6).bind fun _ =>
    (fX5_costBy S x0 x1 x2 x3 x6).bind fun v53 =>
    (fJ9_min_7cf53 x5 v53).bind fun v56 =>
    (some (x6 + 1)).bind fun v61 =>
    some (.inl (x0, x1, x2, x3, v56, v61))
noncomputable def sX5_leastCost (S : MS) : (Nat × Int32 × Int32 × Int32 × Int32 × Int32) → Option ((Nat × Int32 × Int32 × Int32 × Int32 × Int32) ⊕ Int32) := (fun t => bX5_leastCost_39 S t.1 t.2.1 t.2.2.1 t.2.2.2.1 t.2.2.2.2.1 t.2.2.2.2.2)
noncomputable def hX5_leastCost_39 (S : MS) (x0 : Nat) (x1 : Int32) (x2 : Int32) (x3 : Int32) (x5 : Int32) (x6 : Int32) : Option Int32 := lim (sX5_leastCost S) (x0, x1, x2, x3, x5, x6)
theorem qX5_leastCost_39 (S : MS) (x0 : Nat) (x1 : Int32) (x2 : Int32) (x3 : Int32) (x5 : Int32) (x6 : Int32) : hX5_leastCost_39 S x0 x1 x2 x3 x5 x6 = fin (sX5_leastCost S) (bX5_leastCost_39 S x0 x1 x2 x3 x5 x6) := lim_eq _ _
noncomputable def fX5_leastCost (S : MS) (a0 : Nat) (a1 : Int32) (a2 : Int32) (a3 : Int32) (a4 : Int32) : Option Int32 := fin (sX5_leastCost S) (bX5_leastCost_0 S a0 a1 a2 a3 a4)
noncomputable def bX5_weigh_0 (S : MS) (x0 : Nat) (x1 : Int32) (x2 : Int32) : Option (((Nat × Int32 × Int32 × Int32 × MS) ⊕ ((Nat × Int32 × Int32 × Int32 × Int32 × MS) ⊕ (Nat × Int32 × Int32 × Int32 × Int32 × Int32 × MS))) ⊕ MS) :=
  some (.inl (.inl (x0, x1, x2, x2, S)))
noncomputable def bX5_weigh_2 (S : MS) (x0 : Nat) (x1 : Int32) (x2 : Int32) (x3 : Int32) : Option (((Nat × Int32 × Int32 × Int32 × MS) ⊕ ((Nat × Int32 × Int32 × Int32 × Int32 × MS) ⊕ (Nat × Int32 × Int32 × Int32 × Int32 × Int32 × MS))) ⊕ MS) :=
  if x3 < x1 then
    some (.inr S)
  else
    some (.inl (.inr (.inl (x0, x1, x2, x3, (0 : Int32), S))))
noncomputable def bX5_weigh_10 (S : MS) (x0 : Nat) (x1 : Int32) (x2 : Int32) (x3 : Int32) (x4 : Int32) : Option (((Nat × Int32 × Int32 × Int32 × MS) ⊕ ((Nat × Int32 × Int32 × Int32 × Int32 × MS) ⊕ (Nat × Int32 × Int32 × Int32 × Int32 × Int32 × MS))) ⊕ MS) :=
  if (12 : Int32) ≤ x4 then
    (some (x3 + (-1))).bind fun v62 =>
    some (.inl (.inl (x0, x1, x2, v62, S)))
  else
    some (.inl (.inr (.inr (x0, x1, x2, x3, x4, (0 : Int32), S))))
noncomputable def bX5_weigh_20 (S : MS) (x0 : Nat) (x1 : Int32) (x2 : Int32) (x3 : Int32) (x4 : Int32) (x5 : Int32) : Option (((Nat × Int32 × Int32 × Int32 × MS) ⊕ ((Nat × Int32 × Int32 × Int32 × Int32 × MS) ⊕ (Nat × Int32 × Int32 × Int32 × Int32 × Int32 × MS))) ⊕ MS) :=
  if (6 : Int32) ≤ x5 then
    (some (x4 + 1)).bind fun v56 =>
    some (.inl (.inr (.inl (x0, x1, x2, x3, v56, S))))
  else
    (o_gP S x0 6 2).bind fun v28 =>
    (fX5_slotOf x3 x4 x5).bind fun v36 =>
    (o_is S x0 6).bind fun _ =>
    (fX5_leastCost S x0 x3 x4 x5 x2).bind fun v46 =>
    (o_st S v28 12 v36 v46).bind fun S49 =>
    (some (x5 + 1)).bind fun v50 =>
    some (.inl (.inr (.inr (x0, x1, x2, x3, x4, v50, S49))))
noncomputable def sX5_weigh : ((Nat × Int32 × Int32 × Int32 × MS) ⊕ ((Nat × Int32 × Int32 × Int32 × Int32 × MS) ⊕ (Nat × Int32 × Int32 × Int32 × Int32 × Int32 × MS))) → Option (((Nat × Int32 × Int32 × Int32 × MS) ⊕ ((Nat × Int32 × Int32 × Int32 × Int32 × MS) ⊕ (Nat × Int32 × Int32 × Int32 × Int32 × Int32 × MS))) ⊕ MS) := (Sum.elim (fun t => bX5_weigh_2 t.2.2.2.2 t.1 t.2.1 t.2.2.1 t.2.2.2.1) (Sum.elim (fun t => bX5_weigh_10 t.2.2.2.2.2 t.1 t.2.1 t.2.2.1 t.2.2.2.1 t.2.2.2.2.1) (fun t => bX5_weigh_20 t.2.2.2.2.2.2 t.1 t.2.1 t.2.2.1 t.2.2.2.1 t.2.2.2.2.1 t.2.2.2.2.2.1)))
noncomputable def hX5_weigh_2 (S : MS) (x0 : Nat) (x1 : Int32) (x2 : Int32) (x3 : Int32) : Option MS := lim (sX5_weigh) (.inl (x0, x1, x2, x3, S))
theorem qX5_weigh_2 (S : MS) (x0 : Nat) (x1 : Int32) (x2 : Int32) (x3 : Int32) : hX5_weigh_2 S x0 x1 x2 x3 = fin (sX5_weigh) (bX5_weigh_2 S x0 x1 x2 x3) := lim_eq _ _
noncomputable def hX5_weigh_10 (S : MS) (x0 : Nat) (x1 : Int32) (x2 : Int32) (x3 : Int32) (x4 : Int32) : Option MS := lim (sX5_weigh) (.inr (.inl (x0, x1, x2, x3, x4, S)))
theorem qX5_weigh_10 (S : MS) (x0 : Nat) (x1 : Int32) (x2 : Int32) (x3 : Int32) (x4 : Int32) : hX5_weigh_10 S x0 x1 x2 x3 x4 = fin (sX5_weigh) (bX5_weigh_10 S x0 x1 x2 x3 x4) := lim_eq _ _
noncomputable def hX5_weigh_20 (S : MS) (x0 : Nat) (x1 : Int32) (x2 : Int32) (x3 : Int32) (x4 : Int32) (x5 : Int32) : Option MS := lim (sX5_weigh) (.inr (.inr (x0, x1, x2, x3, x4, x5, S)))
theorem qX5_weigh_20 (S : MS) (x0 : Nat) (x1 : Int32) (x2 : Int32) (x3 : Int32) (x4 : Int32) (x5 : Int32) : hX5_weigh_20 S x0 x1 x2 x3 x4 x5 = fin (sX5_weigh) (bX5_weigh_20 S x0 x1 x2 x3 x4 x5) := lim_eq _ _
noncomputable def fX5_weigh (S : MS) (a0 : Nat) (a1 : Int32) (a2 : Int32) : Option MS := fin (sX5_weigh) (bX5_weigh_0 S a0 a1 a2)
noncomputable def bX5_bestStart_0 (S : MS) (x0 : Nat) (x1 : Int32) (x2 : Int32) : Option ((Nat × Int32 × Int32 × Int32 × Int32 × MS) ⊕ (Int32 × MS)) :=
  (o_is S x0 6).bind fun _ =>
  (fX5_weigh S x0 x1 x2).bind fun S3 =>
  some (.inl (x0, x1, (-9 : Int32), (1000 : Int32), (0 : Int32), S3))
noncomputable def bX5_bestStart_52 (S : MS) (x0 : Nat) (x1 : Int32) (x3 : Int32) (x4 : Int32) (x5 : Int32) : Option ((Nat × Int32 × Int32 × Int32 × Int32 × MS) ⊕ (Int32 × MS)) :=
  (some (x5 + 1)).bind fun v52 =>
  some (.inl (x0, x1, x3, x4, v52, S))
noncomputable def bX5_bestStart_17 (S : MS) (x0 : Nat) (x1 : Int32) (x3 : Int32) (x4 : Int32) (x5 : Int32) : Option ((Nat × Int32 × Int32 × Int32 × Int32 × MS) ⊕ (Int32 × MS)) :=
  if (12 : Int32) ≤ x5 then
    some (.inr (x3, S))
  else
    (o_gP S x0 6 2).bind fun v25 =>
    (fX5_slotOf x1 x5 (5 : Int32)).bind fun v32 =>
    (o_ld S v25 12 v32).bind fun v35 =>
    if x4 ≤ v35 then
      bX5_bestStart_52 S x0 x1 x3 x4 x5
    else
      bX5_bestStart_52 S x0 x1 x5 v35 x5
noncomputable def sX5_bestStart : (Nat × Int32 × Int32 × Int32 × Int32 × MS) → Option ((Nat × Int32 × Int32 × Int32 × Int32 × MS) ⊕ (Int32 × MS)) := (fun t => bX5_bestStart_17 t.2.2.2.2.2 t.1 t.2.1 t.2.2.1 t.2.2.2.1 t.2.2.2.2.1)
noncomputable def hX5_bestStart_17 (S : MS) (x0 : Nat) (x1 : Int32) (x3 : Int32) (x4 : Int32) (x5 : Int32) : Option (Int32 × MS) := lim (sX5_bestStart) (x0, x1, x3, x4, x5, S)
theorem qX5_bestStart_17 (S : MS) (x0 : Nat) (x1 : Int32) (x3 : Int32) (x4 : Int32) (x5 : Int32) : hX5_bestStart_17 S x0 x1 x3 x4 x5 = fin (sX5_bestStart) (bX5_bestStart_17 S x0 x1 x3 x4 x5) := lim_eq _ _
noncomputable def fX5_bestStart (S : MS) (a0 : Nat) (a1 : Int32) (a2 : Int32) : Option (Int32 × MS) := fin (sX5_bestStart) (bX5_bestStart_0 S a0 a1 a2)
noncomputable def bX3_init_0 (S : MS) (x0 : Nat) (x1 : Int32) (x2 : Int32) (x3 : Int32) (x4 : Int32) (x5 : Nat) : Option MS :=
  (o_sI S x0 4 0 x1).bind fun S6 =>
  (o_sI S6 x0 4 1 x2).bind fun S11 =>
  (o_sI S11 x0 4 2 x3).bind fun S16 =>
  (o_sI S16 x0 4 3 x4).bind fun S22 =>
  (o_sP S22 x0 4 4 x5).bind fun S28 =>
  some S28
noncomputable def fX3_init (S : MS) (a0 : Nat) (a1 : Int32) (a2 : Int32) (a3 : Int32) (a4 : Int32) (a5 : Nat) : Option MS := bX3_init_0 S a0 a1 a2 a3 a4 a5
noncomputable def bX5_bestChange_0 (S : MS) (x0 : Nat) (x1 : Int32) (x2 : Int32) (x3 : Int32) : Option ((Nat × Int32 × Int32 × Int32 × Int32 × Int32 × Int32) ⊕ Int32) :=
  some (.inl (x0, x1, x2, x3, (2 : Int32), (1000 : Int32), (0 : Int32)))
noncomputable def bX5_bestChange_43 (S : MS) (x0 : Nat) (x1 : Int32) (x2 : Int32) (x3 : Int32) (x4 : Int32) (x5 : Int32) (x6 : Int32) : Option ((Nat × Int32 × Int32 × Int32 × Int32 × Int32 × Int32) ⊕ Int32) :=
  (some (x6 + 1)).bind fun v43 =>
  some (.inl (x0, x1, x2, x3, x4, x5, v43))
noncomputable def bX5_bestChange_11 (S : MS) (x0 : Nat) (x1 : Int32) (x2 : Int32) (x3 : Int32) (x4 : Int32) (x5 : Int32) (x6 : Int32) : Option ((Nat × Int32 × Int32 × Int32 × Int32 × Int32 × Int32) ⊕ Int32) :=
  if (5 : Int32) ≤ x6 then
    some (.inr x4)
  else
    (o_is S x0 6).bind fun _ =>
    (fX5_costBy S x0 x1 x2 x3 x6).bind fun v23 =>
    if x5 ≤ v23 then
      bX5_bestChange_43 S x0 x1 x2 x3 x4 x5 x6
    else
      bX5_bestChange_43 S x0 x1 x2 x3 x6 v23 x6
noncomputable def sX5_bestChange (S : MS) : (Nat × Int32 × Int32 × Int32 × Int32 × Int32 × Int32) → Option ((Nat × Int32 × Int32 × Int32 × Int32 × Int32 × Int32) ⊕ Int32) := (fun t => bX5_bestChange_11 S t.1 t.2.1 t.2.2.1 t.2.2.2.1 t.2.2.2.2.1 t.2.2.2.2.2.1 t.2.2.2.2.2.2)
noncomputable def hX5_bestChange_11 (S : MS) (x0 : Nat) (x1 : Int32) (x2 : Int32) (x3 : Int32) (x4 : Int32) (x5 : Int32) (x6 : Int32) : Option Int32 := lim (sX5_bestChange S) (x0, x1, x2, x3, x4, x5, x6)
theorem qX5_bestChange_11 (S : MS) (x0 : Nat) (x1 : Int32) (x2 : Int32) (x3 : Int32) (x4 : Int32) (x5 : Int32) (x6 : Int32) : hX5_bestChange_11 S x0 x1 x2 x3 x4 x5 x6 = fin (sX5_bestChange S) (bX5_bestChange_11 S x0 x1 x2 x3 x4 x5 x6) := lim_eq _ _
noncomputable def fX5_bestChange (S : MS) (a0 : Nat) (a1 : Int32) (a2 : Int32) (a3 : Int32) : Option Int32 := fin (sX5_bestChange S) (bX5_bestChange_0 S a0 a1 a2 a3)
noncomputable def bX5_drawn_0 (S : MS) (x0 : Nat) (x1 : Int32) (x2 : Int32) (x3 : Int32) (x4 : Int32) : Option ((Nat × Int32 × Int32 × Int32 × Int32 × Nat × Int32 × Int32 × Int32 × MS) ⊕ (Nat × MS)) :=
  (o_le 12 (12 : Int32)).bind fun n2 =>
  (some (m_n S + 1)).bind fun o2 =>
  (some (m_new S 12 n2)).bind fun S2 =>
  (o_st S2 o2 12 x2 x4).bind fun S18 =>
  some (.inl (x0, x1, x2, x3, x4, o2, x4, (5 : Int32), x2, S18))
noncomputable def bX5_drawn_22 (S : MS) (x0 : Nat) (x1 : Int32) (x2 : Int32) (x3 : Int32) (x4 : Int32) (x5 : Nat) (x6 : Int32) (x7 : Int32) (x8 : Int32) : Option ((Nat × Int32 × Int32 × Int32 × Int32 × Nat × Int32 × Int32 × Int32 × MS) ⊕ (Nat × MS)) :=
  if x3 ≤ x8 then
    (some (m_n S + 1)).bind fun o64 =>
    (some (m_new S 4 0)).bind fun S64 =>
    (o_gP S64 x0 6 2).bind fun v72 =>
    (fX5_slotOf x2 x4 (5 : Int32)).bind fun v79 =>
    (o_ld S64 v72 12 v79).bind fun v82 =>
    (fX3_init S64 o64 x1 x2 x3 v82 x5).bind fun S85 =>
    some (.inr (o64, S85))
  else
    (o_is S x0 6).bind fun _ =>
    (fX5_bestChange S x0 x8 x6 x7).bind fun v35 =>
    (some ((x6 + (v35 - (2 : Int32))))).bind fun v47 =>
    (o_st S x5 12 (x8 + (1 : Int32)) v47).bind fun S57 =>
    (some (x8 + 1)).bind fun v58 =>
    some (.inl (x0, x1, x2, x3, x4, x5, v47, v35, v58, S57))
noncomputable def sX5_drawn : (Nat × Int32 × Int32 × Int32 × Int32 × Nat × Int32 × Int32 × Int32 × MS) → Option ((Nat × Int32 × Int32 × Int32 × Int32 × Nat × Int32 × Int32 × Int32 × MS) ⊕ (Nat × MS)) := (fun t => bX5_drawn_22 t.2.2.2.2.2.2.2.2.2 t.1 t.2.1 t.2.2.1 t.2.2.2.1 t.2.2.2.2.1 t.2.2.2.2.2.1 t.2.2.2.2.2.2.1 t.2.2.2.2.2.2.2.1 t.2.2.2.2.2.2.2.2.1)
noncomputable def hX5_drawn_22 (S : MS) (x0 : Nat) (x1 : Int32) (x2 : Int32) (x3 : Int32) (x4 : Int32) (x5 : Nat) (x6 : Int32) (x7 : Int32) (x8 : Int32) : Option (Nat × MS) := lim (sX5_drawn) (x0, x1, x2, x3, x4, x5, x6, x7, x8, S)
theorem qX5_drawn_22 (S : MS) (x0 : Nat) (x1 : Int32) (x2 : Int32) (x3 : Int32) (x4 : Int32) (x5 : Nat) (x6 : Int32) (x7 : Int32) (x8 : Int32) : hX5_drawn_22 S x0 x1 x2 x3 x4 x5 x6 x7 x8 = fin (sX5_drawn) (bX5_drawn_22 S x0 x1 x2 x3 x4 x5 x6 x7 x8) := lim_eq _ _
noncomputable def fX5_drawn (S : MS) (a0 : Nat) (a1 : Int32) (a2 : Int32) (a3 : Int32) (a4 : Int32) : Option (Nat × MS) := fin (sX5_drawn) (bX5_drawn_0 S a0 a1 a2 a3 a4)
noncomputable def bX5_takesGates_0 (S : MS) (x0 : Nat) (x1 : Nat) (x2 : Int32) (x3 : Int32) : Option ((Nat × Nat × Int32 × Int32 × Int32 × MS) ⊕ (Int32 × MS)) :=
  (o_gP S x0 6 0).bind fun v1 =>
  (fJ7_fill_53178 S v1 (0 : Int32)).bind fun S5 =>
  (o_gP S5 x0 6 1).bind fun v9 =>
  (fJ7_fill_53178 S5 v9 (11 : Int32)).bind fun S14 =>
  some (.inl (x0, x1, x2, x3, (0 : Int32), S14))
noncomputable def bX5_takesGates_87 (S : MS) : Option ((Nat × Nat × Int32 × Int32 × Int32 × MS) ⊕ (Int32 × MS)) :=
  some (.inr ((0 : Int32), S))
noncomputable def bX5_takesGates_20 (S : MS) (x0 : Nat) (x1 : Nat) (x2 : Int32) (x3 : Int32) (x4 : Int32) : Option ((Nat × Nat × Int32 × Int32 × Int32 × MS) ⊕ (Int32 × MS)) :=
  if x3 ≤ x4 then
    some (.inr ((1 : Int32), S))
  else
    (o_ld S x1 12 (x2 + ((3 : Int32) * x4))).bind fun v33 =>
    (o_ld S x1 12 ((x2 + ((3 : Int32) * x4)) + (1 : Int32))).bind fun v45 =>
    (o_ld S x1 12 ((x2 + ((3 : Int32) * x4)) + (2 : Int32))).bind fun v57 =>
    (fX9_isPlace v33 v45).bind fun v64 =>
    if v64 = 0 then
      bX5_takesGates_87 S
    else
      (fX9_isPlace v33 v57).bind fun v74 =>
      if v74 = 0 then
        bX5_takesGates_87 S
      else
        if v45 ≤ v57 then
          (o_gP S x0 6 0).bind fun v90 =>
          (o_gP S x0 6 0).bind fun v96 =>
          (o_ld S v96 12 v33).bind fun v101 =>
          (fJ9_max_7cf53 v101 v45).bind fun v104 =>
          (o_st S v90 12 v33 v104).bind fun S107 =>
          (o_gP S107 x0 6 1).bind fun v109 =>
          (o_gP S107 x0 6 1).bind fun v115 =>
          (o_ld S107 v115 12 v33).bind fun v120 =>
          (fJ9_min_7cf53 v120 v57).bind fun v123 =>
          (o_st S107 v109 12 v33 v123).bind fun S126 =>
          (some (x4 + 1)).bind fun v127 =>
          some (.inl (x0, x1, x2, x3, v127, S126))
        else
          bX5_takesGates_87 S
noncomputable def sX5_takesGates : (Nat × Nat × Int32 × Int32 × Int32 × MS) → Option ((Nat × Nat × Int32 × Int32 × Int32 × MS) ⊕ (Int32 × MS)) := (fun t => bX5_takesGates_20 t.2.2.2.2.2 t.1 t.2.1 t.2.2.1 t.2.2.2.1 t.2.2.2.2.1)
noncomputable def hX5_takesGates_20 (S : MS) (x0 : Nat) (x1 : Nat) (x2 : Int32) (x3 : Int32) (x4 : Int32) : Option (Int32 × MS) := lim (sX5_takesGates) (x0, x1, x2, x3, x4, S)
theorem qX5_takesGates_20 (S : MS) (x0 : Nat) (x1 : Nat) (x2 : Int32) (x3 : Int32) (x4 : Int32) : hX5_takesGates_20 S x0 x1 x2 x3 x4 = fin (sX5_takesGates) (bX5_takesGates_20 S x0 x1 x2 x3 x4) := lim_eq _ _
noncomputable def fX5_takesGates (S : MS) (a0 : Nat) (a1 : Nat) (a2 : Int32) (a3 : Int32) : Option (Int32 × MS) := fin (sX5_takesGates) (bX5_takesGates_0 S a0 a1 a2 a3)
noncomputable def bX9_draw_40 (S : MS) : Option (Int32 × MS) :=
  some ((-2 : Int32), S)
noncomputable def bX9_draw_60 (S : MS) : Option (Int32 × MS) :=
  some ((-2 : Int32), S)
noncomputable def bX9_draw_0 (S : MS) (x0 : Nat) (x1 : Int32) (x2 : Int32) (x3 : Int32) (x4 : Int32) (x5 : Int32) (x6 : Int32) (x7 : Int32) (x8 : Int32) : Option (Int32 × MS) :=
  (o_sI S x0 10 12 (0 : Int32)).bind fun S2 =>
  (fX9_isSheet x5).bind fun v7 =>
  if v7 = 0 then
    some ((-1 : Int32), S2)
  else
    (fX9_isBelow x6 (3 : Int32)).bind fun v18 =>
    if v18 = 0 then
      bX9_draw_40 S2
    else
      (fX9_isBelow x1 (2 : Int32)).bind fun v26 =>
      if v26 = 0 then
        bX9_draw_40 S2
      else
        (fX9_isBelow x2 (3 : Int32)).bind fun v34 =>
        if v34 = 0 then
          bX9_draw_40 S2
        else
          if x3 < 0 then
            bX9_draw_60 S2
          else
            if x4 ≤ x3 then
              bX9_draw_60 S2
            else
              if x4 < (12 : Int32) then
                (o_gP S2 x0 10 10).bind fun v64 =>
                (o_ldP S2 v64 14 x5).bind fun v69 =>
                (o_is S2 v69 8).bind fun _ =>
                (fX7_faultOfTaking S2 v69 x6 x7 ((3 : Int64) * (x8.toInt64))).bind fun v81 =>
                if v81 = 0 then
                  (o_gP S2 x0 10 5).bind fun v99 =>
                  (o_gP S2 x0 10 10).bind fun v103 =>
                  (o_ldP S2 v103 14 x5).bind fun v108 =>
                  (o_gP S2 v108 8 2).bind fun v109 =>
                  (o_is S2 v99 6).bind fun _ =>
                  b2 (fX5_takesGates S2 v99 v109 x7 x8) fun v116 S116 =>
                  if v116 = 0 then
                    some ((-2 : Int32), S116)
                  else
                    (o_gP S116 x0 10 5).bind fun v126 =>
                    (o_is S116 v126 6).bind fun _ =>
                    b2 (fX5_bestStart S116 v126 x3 x4) fun v132 S132 =>
                    if v132 = (-9 : Int32) then
                      some ((-3 : Int32), S132)
                    else
                      (o_is S132 x0 10).bind fun _ =>
                      (fX9_frontsOf S132 x0 x1).bind fun v149 =>
                      (o_is S132 v149 0).bind fun _ =>
                      (fJx4a65c_size_8abf5 S132 v149).bind fun v156 =>
                      if v156 < (5 : Int32) then
                        (o_gP S132 x0 10 5).bind fun v169 =>
                        (o_is S132 v169 6).bind fun _ =>
                        b2 (fX5_drawn S132 v169 x2 x3 x4 v132) fun v178 S178 =>
                        (o_is S178 v149 0).bind fun _ =>
                        b2 (fJx4a65c_add_9ea2d S178 v149 v178) fun v181 S181 =>
                        (o_is S181 v149 0).bind fun _ =>
                        (fJx4a65c_size_8abf5 S181 v149).bind fun v187 =>
                        some ((v187 - (1 : Int32)), S181)
                      else
                        some ((-4 : Int32), S132)
                else
                  (o_is S2 x0 10).bind fun _ =>
                  b2 (fX9_comeTo S2 x0 v81) fun v94 S94 =>
                  some (v94, S94)
              else
                bX9_draw_60 S2
noncomputable def fX9_draw (S : MS) (a0 : Nat) (a1 : Int32) (a2 : Int32) (a3 : Int32) (a4 : Int32) (a5 : Int32) (a6 : Int32) (a7 : Int32) (a8 : Int32) : Option (Int32 × MS) := bX9_draw_0 S a0 a1 a2 a3 a4 a5 a6 a7 a8
set_option maxHeartbeats 4000000 in
set_option maxRecDepth 100000 in
theorem wX9_isWithin_15 {p : Program} {l : Launch} {e : Env} {s : State} {m : MethodId} {args : Array Value} {below : List Frame} {meth : Method} {c : Code} {D : va_G} {cy : Nat → ClassId} (ad : Nat → Nat) (A : Nat → Prop) {r : Int32} {ls : Array Slot} {z0 : Int32} (C0 : CX p s m args meth c RX9 cX9_isWithin 3 D cy) (hr : meth.sig.returnType = some .boolean) (hF : bX9_isWithin_15 z0 = some r) (hl : lv_has ls 3 []) : W p l e rmX9_isWithin s m args below meth c s.heap [] 0 0 (MQ below (QcS (some (.int r))) args s 0 0 (fun _ => False)) (F0 m 15 ls [.int z0]) := by
  unfold bX9_isWithin_15 at hF
  obtain ⟨hx, hb, -, hown, -, hts, -⟩ := id C0
  obtain ⟨z15, hz, hF⟩ := ob hF
  have hz2 := (o_if hz).2
  refine vtopi hz2 ?_
  rw [hz2] at hz
  obtain rfl := (Option.some.inj hF)
  exact rt_SZ C0 hr hz dX9_isWithin_15
set_option maxHeartbeats 4000000 in
set_option maxRecDepth 100000 in
theorem wX9_isWithin_14 {p : Program} {l : Launch} {e : Env} {s : State} {m : MethodId} {args : Array Value} {below : List Frame} {meth : Method} {c : Code} {D : va_G} {cy : Nat → ClassId} (ad : Nat → Nat) (A : Nat → Prop) {r : Int32} {ls : Array Slot} (C0 : CX p s m args meth c RX9 cX9_isWithin 3 D cy) (hr : meth.sig.returnType = some .boolean) (hF : bX9_isWithin_14 = some r) (hl : lv_has ls 3 []) : W p l e rmX9_isWithin s m args below meth c s.heap [] 0 0 (MQ below (QcS (some (.int r))) args s 0 0 (fun _ => False)) (F0 m 14 ls []) := by
  unfold bX9_isWithin_14 at hF
  obtain ⟨hx, hb, -, hown, -, hts, -⟩ := id C0
  refine lv_iconst (v := (0 : Int32)) hx hb dX9_isWithin_14 (by decide) ?_
  exact wX9_isWithin_15 ad A C0 hr hF (lv_sub hl [] rfl)
set_option maxHeartbeats 4000000 in
set_option maxRecDepth 100000 in
theorem wX9_isWithin_0 {p : Program} {l : Launch} {e : Env} {s : State} {m : MethodId} {args : Array Value} {below : List Frame} {meth : Method} {c : Code} {D : va_G} {cy : Nat → ClassId} (ad : Nat → Nat) (A : Nat → Prop) {r : Int32} {ls : Array Slot} {x0 : Int32} {x1 : Int32} {x2 : Int32} (C0 : CX p s m args meth c RX9 cX9_isWithin 3 D cy) (hr : meth.sig.returnType = some .boolean) (hF : bX9_isWithin_0 x0 x1 x2 = some r) (hl : lv_has ls 3 [(0, .int x0), (1, .int x1), (2, .int x2)]) : W p l e rmX9_isWithin s m args below meth c s.heap [] 0 0 (MQ below (QcS (some (.int r))) args s 0 0 (fun _ => False)) (F0 m 0 ls []) := by
  unfold bX9_isWithin_0 at hF
  obtain ⟨hx, hb, -, hown, -, hts, -⟩ := id C0
  refine lv_iload_n hx hb dX9_isWithin_0 rfl (lv_at hl 0 rfl) ?_
  refine lv_iload_n hx hb dX9_isWithin_1 rfl (lv_at hl 1 rfl) ?_
  refine lv_icmp_lt (tgt := 14) hx hb dX9_isWithin_2 (by decide) (fun hc => ?_) (fun hc => ?_)
  · have hF := oi_t hc hF
    exact wX9_isWithin_14 ad A C0 hr hF (lv_sub hl [] rfl)
  · have hF := oi_f hc hF
    refine lv_iload_n hx hb dX9_isWithin_5 rfl (lv_at hl 0 rfl) ?_
    refine lv_iload_n hx hb dX9_isWithin_6 rfl (lv_at hl 2 rfl) ?_
    refine lv_icmp_gt (tgt := 14) hx hb dX9_isWithin_7 (by decide) (fun hc => ?_) (fun hc => ?_)
    · have hF := oi_t hc hF
      exact wX9_isWithin_14 ad A C0 hr hF (lv_sub hl [] rfl)
    · have hF := oi_f hc hF
      refine lv_iconst (v := (1 : Int32)) hx hb dX9_isWithin_10 (by decide) ?_
      refine lv_goto (tgt := 15) hx hb dX9_isWithin_11 (by decide) ?_
      exact wX9_isWithin_15 ad A C0 hr hF (lv_sub hl [] rfl)
set_option maxHeartbeats 4000000 in
set_option maxRecDepth 100000 in
theorem tX9_isWithin (l : Launch) (D : va_G) (cy : Nat → ClassId) (ad : Nat → Nat) {a0 : Int32} {a1 : Int32} {a2 : Int32} {r : Int32} (h : fX9_isWithin a0 a1 a2 = some r) : Met l yX9_isWithin [Cond.code yX9_isWithin cX9_isWithin 3 (some .boolean)] rmX9_isWithin (PcS D cy [.int a0, .int a1, .int a2]) (QcS (some (.int r))) 0 0 (fun _ => False) := by
  refine met_S (by decide +kernel) cw_X9_isWithin (Nat.le_of_ble_eq_true rfl) ?_
  intro p e s m args below meth c ls C0 hr hl
  have hl : lv_has ls 3 [(0, .int a0), (1, .int a1), (2, .int a2)] := hl
  exact wX9_isWithin_0 ad (fun _ => False) C0 hr h hl
set_option maxHeartbeats 4000000 in
set_option maxRecDepth 100000 in
theorem wX9_isPlace_23 {p : Program} {l : Launch} {e : Env} {s : State} {m : MethodId} {args : Array Value} {below : List Frame} {meth : Method} {c : Code} {D : va_G} {cy : Nat → ClassId} (ad : Nat → Nat) (A : Nat → Prop) {r : Int32} {ls : Array Slot} {z0 : Int32} (C0 : CX p s m args meth c RX9 cX9_isPlace 2 D cy) (hr : meth.sig.returnType = some .boolean) (hF : bX9_isPlace_23 z0 = some r) (hl : lv_has ls 2 []) : W p l e rmX9_isPlace s m args below meth c s.heap [] 0 0 (MQ below (QcS (some (.int r))) args s 0 0 (fun _ => False)) (F0 m 23 ls [.int z0]) := by
  unfold bX9_isPlace_23 at hF
  obtain ⟨hx, hb, -, hown, -, hts, -⟩ := id C0
  obtain ⟨z23, hz, hF⟩ := ob hF
  have hz2 := (o_if hz).2
  refine vtopi hz2 ?_
  rw [hz2] at hz
  obtain rfl := (Option.some.inj hF)
  exact rt_SZ C0 hr hz dX9_isPlace_23
set_option maxHeartbeats 4000000 in
set_option maxRecDepth 100000 in
theorem wX9_isPlace_22 {p : Program} {l : Launch} {e : Env} {s : State} {m : MethodId} {args : Array Value} {below : List Frame} {meth : Method} {c : Code} {D : va_G} {cy : Nat → ClassId} (ad : Nat → Nat) (A : Nat → Prop) {r : Int32} {ls : Array Slot} (C0 : CX p s m args meth c RX9 cX9_isPlace 2 D cy) (hr : meth.sig.returnType = some .boolean) (hF : bX9_isPlace_22 = some r) (hl : lv_has ls 2 []) : W p l e rmX9_isPlace s m args below meth c s.heap [] 0 0 (MQ below (QcS (some (.int r))) args s 0 0 (fun _ => False)) (F0 m 22 ls []) := by
  unfold bX9_isPlace_22 at hF
  obtain ⟨hx, hb, -, hown, -, hts, -⟩ := id C0
  refine lv_iconst (v := (0 : Int32)) hx hb dX9_isPlace_22 (by decide) ?_
  exact wX9_isPlace_23 ad A C0 hr hF (lv_sub hl [] rfl)
set_option maxHeartbeats 4000000 in
set_option maxRecDepth 100000 in
theorem wX9_isPlace_0 {p : Program} {l : Launch} {e : Env} {s : State} {m : MethodId} {args : Array Value} {below : List Frame} {meth : Method} {c : Code} {D : va_G} {cy : Nat → ClassId} (ad : Nat → Nat) (A : Nat → Prop) {r : Int32} {ls : Array Slot} {x0 : Int32} {x1 : Int32} (C0 : CX p s m args meth c RX9 cX9_isPlace 2 D cy) (hr : meth.sig.returnType = some .boolean) (hF : bX9_isPlace_0 x0 x1 = some r) (hl : lv_has ls 2 [(0, .int x0), (1, .int x1)]) : W p l e rmX9_isPlace s m args below meth c s.heap [] 0 0 (MQ below (QcS (some (.int r))) args s 0 0 (fun _ => False)) (F0 m 0 ls []) := by
  unfold bX9_isPlace_0 at hF
  obtain ⟨hx, hb, -, hown, -, hts, -⟩ := id C0
  refine lv_iload_n hx hb dX9_isPlace_0 rfl (lv_at hl 0 rfl) ?_
  refine lv_bipush (v := (12 : Int32)) hx hb dX9_isPlace_1 (by decide) ?_
  obtain ⟨v3, hcl, hF⟩ := ob hF
  refine go_SI (r_S (rest := []) (As := [.int x0, .int (12 : Int32)]) C0 cb_X9_79 (tX9_isBelow l D cy ad hcl) (pre_S C0) hl dX9_isPlace_3 rfl (Nat.le_of_ble_eq_true rfl) ⟨rfl, rfl⟩ ⟨Nat.le_of_ble_eq_true rfl, Nat.le_of_ble_eq_true rfl⟩ ⟨Nat.le_of_ble_eq_true rfl, Nat.le_of_ble_eq_true rfl⟩ rfl) ?_
  refine lv_if_eq (tgt := 22) hx hb dX9_isPlace_6 (by decide) (fun hc => ?_) (fun hc => ?_)
  · have hF := oi_t hc hF
    exact wX9_isPlace_22 ad A C0 hr hF (lv_sub hl [] rfl)
  · have hF := oi_f hc hF
    refine lv_iload_n hx hb dX9_isPlace_9 rfl (lv_at hl 1 rfl) ?_
    refine lv_bipush (v := (12 : Int32)) hx hb dX9_isPlace_10 (by decide) ?_
    obtain ⟨v12, hcl, hF⟩ := ob hF
    refine go_SI (r_S (rest := []) (As := [.int x1, .int (12 : Int32)]) C0 cb_X9_79 (tX9_isBelow l D cy ad hcl) (pre_S C0) hl dX9_isPlace_12 rfl (Nat.le_of_ble_eq_true rfl) ⟨rfl, rfl⟩ ⟨Nat.le_of_ble_eq_true rfl, Nat.le_of_ble_eq_true rfl⟩ ⟨Nat.le_of_ble_eq_true rfl, Nat.le_of_ble_eq_true rfl⟩ rfl) ?_
    refine lv_if_eq (tgt := 22) hx hb dX9_isPlace_15 (by decide) (fun hc => ?_) (fun hc => ?_)
    · have hF := oi_t hc hF
      exact wX9_isPlace_22 ad A C0 hr hF (lv_sub hl [] rfl)
    · have hF := oi_f hc hF
      refine lv_iconst (v := (1 : Int32)) hx hb dX9_isPlace_18 (by decide) ?_
      refine lv_goto (tgt := 23) hx hb dX9_isPlace_19 (by decide) ?_
      exact wX9_isPlace_23 ad A C0 hr hF (lv_sub hl [] rfl)
set_option maxHeartbeats 4000000 in
set_option maxRecDepth 100000 in
theorem tX9_isPlace (l : Launch) (D : va_G) (cy : Nat → ClassId) (ad : Nat → Nat) {a0 : Int32} {a1 : Int32} {r : Int32} (h : fX9_isPlace a0 a1 = some r) : Met l yX9_isPlace [Cond.code yX9_isPlace cX9_isPlace 2 (some .boolean)] rmX9_isPlace (PcS D cy [.int a0, .int a1]) (QcS (some (.int r))) 0 0 (fun _ => False) := by
  refine met_S (by decide +kernel) cw_X9_isPlace (Nat.le_of_ble_eq_true rfl) ?_
  intro p e s m args below meth c ls C0 hr hl
  have hl : lv_has ls 2 [(0, .int a0), (1, .int a1)] := hl
  exact wX9_isPlace_0 ad (fun _ => False) C0 hr h hl
set_option maxHeartbeats 4000000 in
set_option maxRecDepth 100000 in
theorem wX0_carriedValue_0 {p : Program} {l : Launch} {e : Env} {s : State} {m : MethodId} {args : Array Value} {below : List Frame} {meth : Method} {c : Code} {D : va_G} {cy : Nat → ClassId} (ad : Nat → Nat) (A : Nat → Prop) {S : MS} {r : Int32} {ls : Array Slot} {x0 : Nat} {x1 : Int32} {x2 : Int32} {x3 : Int32} {x4 : Int32} (C0 : CX p s m args meth c RX0 cX0_carriedValue 5 D cy) (M : MW D cy ad A S s.heap) (hr : meth.sig.returnType = some .int) (hF : bX0_carriedValue_0 S x0 x1 x2 x3 x4 = some r) (hl : lv_has ls 5 [(0, .ref (ad x0)), (1, .int x1), (2, .int x2), (3, .int x3), (4, .int x4)]) : W p l e rmX0_carriedValue s m args below meth c s.heap [] 0 0 (MQ below (QcS (some (.int r))) args s 0 0 (fun _ => False)) (F0 m 0 ls []) := by
  unfold bX0_carriedValue_0 at hF
  obtain ⟨hx, hb, -, hown, -, hts, -⟩ := id C0
  refine lv_iload_n hx hb dX0_carriedValue_0 rfl (lv_at hl 3 rfl) ?_
  refine lv_iload_n hx hb dX0_carriedValue_1 rfl (lv_at hl 1 rfl) ?_
  refine lv_isub hx hb dX0_carriedValue_2 ?_
  refine lv_iload hx hb dX0_carriedValue_3 (lv_at hl 4 rfl) ?_
  refine lv_iload_n hx hb dX0_carriedValue_5 rfl (lv_at hl 2 rfl) ?_
  refine lv_isub hx hb dX0_carriedValue_6 ?_
  obtain ⟨v7, hcl, hF⟩ := ob hF
  refine go_SI (r_SN (rest := []) (As := [.int (x3 - x1), .int (x4 - x2)]) C0 cb_X0_117 (tX9_isPlace l D cy ad hcl) (pre_S C0) hl dX0_carriedValue_7 rfl (Nat.le_of_ble_eq_true rfl) ⟨rfl, rfl⟩ ⟨Nat.le_of_ble_eq_true rfl, Nat.le_of_ble_eq_true rfl⟩ ⟨Nat.le_of_ble_eq_true rfl, Nat.le_of_ble_eq_true rfl⟩ rfl) ?_
  refine lv_if_ne (tgt := 16) hx hb dX0_carriedValue_10 (by decide) (fun hc => ?_) (fun hc => ?_)
  · have hF := oi_f hc hF
    refine lv_aload_n hx hb dX0_carriedValue_16 rfl (lv_at hl 0 rfl) ?_
    obtain ⟨v17, hv, hF⟩ := ob hF
    refine k_getP C0 M hv fl_X0_25 dX0_carriedValue_17 ?_
    refine lv_bipush (v := (12 : Int32)) hx hb dX0_carriedValue_20 (by decide) ?_
    refine lv_iload hx hb dX0_carriedValue_22 (lv_at hl 4 rfl) ?_
    refine lv_iload_n hx hb dX0_carriedValue_24 rfl (lv_at hl 2 rfl) ?_
    refine lv_isub hx hb dX0_carriedValue_25 ?_
    refine lv_imul hx hb dX0_carriedValue_26 ?_
    refine lv_iload_n hx hb dX0_carriedValue_27 rfl (lv_at hl 3 rfl) ?_
    refine lv_iadd hx hb dX0_carriedValue_28 ?_
    refine lv_iload_n hx hb dX0_carriedValue_29 rfl (lv_at hl 1 rfl) ?_
    refine lv_isub hx hb dX0_carriedValue_30 ?_
    obtain ⟨v31, hv, hF⟩ := ob hF
    refine k_ld C0 M hv dX0_carriedValue_31 ?_
    obtain rfl := (Option.some.inj hF)
    exact rt_SI C0 hr dX0_carriedValue_32
  · have hF := oi_t hc hF
    refine lv_bipush (v := (-9 : Int32)) hx hb dX0_carriedValue_13 (by decide) ?_
    obtain rfl := (Option.some.inj hF)
    exact rt_SI C0 hr dX0_carriedValue_15
set_option maxHeartbeats 4000000 in
set_option maxRecDepth 100000 in
theorem tX0_carriedValue (l : Launch) (D : va_G) (cy : Nat → ClassId) (ad : Nat → Nat) (A : Nat → Prop) {S : MS} {a0 : Nat} {a1 : Int32} {a2 : Int32} {a3 : Int32} {a4 : Int32} {r : Int32} (h : fX0_carriedValue S a0 a1 a2 a3 a4 = some r) : Met l yX0_carriedValue [Cond.code yX0_carriedValue cX0_carriedValue 5 (some .int)] rmX0_carriedValue (PcR D cy ad A S [.ref (ad a0), .int a1, .int a2, .int a3, .int a4]) (QcS (some (.int r))) 0 0 (fun _ => False) := by
  refine met_R (by decide +kernel) cw_X0_carriedValue (Nat.le_of_ble_eq_true rfl) ?_
  intro p e s m args below meth c ls C0 M hr hl
  have hl : lv_has ls 5 [(0, .ref (ad a0)), (1, .int a1), (2, .int a2), (3, .int a3), (4, .int a4)] := hl
  exact wX0_carriedValue_0 ad A C0 M hr h hl
set_option maxHeartbeats 4000000 in
set_option maxRecDepth 100000 in
theorem wX0_compare_0 {p : Program} {l : Launch} {e : Env} {s : State} {m : MethodId} {args : Array Value} {below : List Frame} {meth : Method} {c : Code} {D : va_G} {cy : Nat → ClassId} (ad : Nat → Nat) (A : Nat → Prop) {S : MS} {S' : MS} {H : Heap} {locs : List Loc} {n0 : Nat} {out : ((Nat × Int32 × Int32 × Nat × Int32 × MS) ⊕ MS)} {ls : Array Slot} {x0 : Nat} {x1 : Int32} {x2 : Int32} {x3 : Nat} (C0 : CX p s m args meth c RX0 cX0_compare 6 D cy) (M : ST D cy ad A s.heap (ZN n0 s.heap.size) S H locs) (hr : meth.sig.returnType = none) (hF : bX0_compare_0 S x0 x1 x2 x3 = some out) (hl : lv_has ls 6 [(0, .ref (ad x0)), (1, .int x1), (2, .int x2), (3, .ref (ad x3))]) (Kr : ∀ r9, out = .inr r9 → r9 = S') (Kh0 : ∀ (y0 : Nat) (y1 : Int32) (y2 : Int32) (y3 : Nat) (y4 : Int32) (S2 : MS), out = .inl (y0, y1, y2, y3, y4, S2) → ∀ (H1 : Heap) (locs1 : List Loc) (ls1 : Array Slot), ST D cy ad A s.heap (ZN n0 s.heap.size) S2 H1 locs1 → lv_has ls1 6 [(0, .ref (ad y0)), (1, .int y1), (2, .int y2), (3, .ref (ad y3)), (4, .int y4)] → W p l e rmX0_compare s m args below meth c H1 locs1 0 0 (MQ below (QcM D cy ad A n0 S' (none)) args s 0 0 A) (F0 m 18 ls1 [])) : W p l e rmX0_compare s m args below meth c H locs 0 0 (MQ below (QcM D cy ad A n0 S' (none)) args s 0 0 A) (F0 m 0 ls []) := by
  unfold bX0_compare_0 at hF
  obtain ⟨hx, hb, -, hown, -, hts, -⟩ := id C0
  refine lv_aload_n hx hb dX0_compare_0 rfl (lv_at hl 0 rfl) ?_
  refine lv_iconst (v := (0 : Int32)) hx hb dX0_compare_1 (by decide) ?_
  obtain ⟨S2, hv, hF⟩ := ob hF
  refine k_sI C0 M hv fl_X0_28 dX0_compare_2 (fun H locs M => ?_)
  refine lv_aload_n hx hb dX0_compare_5 rfl (lv_at hl 0 rfl) ?_
  refine lv_iconst (v := (0 : Int32)) hx hb dX0_compare_6 (by decide) ?_
  obtain ⟨S7, hv, hF⟩ := ob hF
  refine k_sI C0 M hv fl_X0_31 dX0_compare_7 (fun H locs M => ?_)
  refine lv_aload_n hx hb dX0_compare_10 rfl (lv_at hl 0 rfl) ?_
  refine lv_iconst (v := (0 : Int32)) hx hb dX0_compare_11 (by decide) ?_
  obtain ⟨S12, hv, hF⟩ := ob hF
  refine k_sI C0 M hv fl_X0_34 dX0_compare_12 (fun H locs M => ?_)
  refine lv_iconst (v := (0 : Int32)) hx hb dX0_compare_15 (by decide) ?_
  refine lv_istore (lv' := [(4, .int (0 : Int32)), (0, .ref (ad x0)), (1, .int x1), (2, .int x2), (3, .ref (ad x3))]) hx hb dX0_compare_16 hl (by decide) rfl (fun ls hl => ?_)
  exact Kh0 _ _ _ _ _ _ (Option.some.inj hF).symm _ _ _ M (lv_sub hl [1, 2, 3, 4, 0] rfl)
set_option maxHeartbeats 4000000 in
set_option maxRecDepth 100000 in
theorem wX0_compare_105 {p : Program} {l : Launch} {e : Env} {s : State} {m : MethodId} {args : Array Value} {below : List Frame} {meth : Method} {c : Code} {D : va_G} {cy : Nat → ClassId} (ad : Nat → Nat) (A : Nat → Prop) {S : MS} {S' : MS} {H : Heap} {locs : List Loc} {n0 : Nat} {out : ((Nat × Int32 × Int32 × Nat × Int32 × MS) ⊕ MS)} {ls : Array Slot} {x0 : Nat} {x1 : Int32} {x2 : Int32} {x3 : Nat} {x4 : Int32} (C0 : CX p s m args meth c RX0 cX0_compare 6 D cy) (M : ST D cy ad A s.heap (ZN n0 s.heap.size) S H locs) (hr : meth.sig.returnType = none) (hF : bX0_compare_105 S x0 x1 x2 x3 x4 = some out) (hl : lv_has ls 6 [(0, .ref (ad x0)), (1, .int x1), (2, .int x2), (3, .ref (ad x3)), (4, .int x4)]) (Kr : ∀ r9, out = .inr r9 → r9 = S') (Kh0 : ∀ (y0 : Nat) (y1 : Int32) (y2 : Int32) (y3 : Nat) (y4 : Int32) (S2 : MS), out = .inl (y0, y1, y2, y3, y4, S2) → ∀ (H1 : Heap) (locs1 : List Loc) (ls1 : Array Slot), ST D cy ad A s.heap (ZN n0 s.heap.size) S2 H1 locs1 → lv_has ls1 6 [(0, .ref (ad y0)), (1, .int y1), (2, .int y2), (3, .ref (ad y3)), (4, .int y4)] → W p l e rmX0_compare s m args below meth c H1 locs1 0 0 (MQ below (QcM D cy ad A n0 S' (none)) args s 0 0 A) (F0 m 18 ls1 [])) : W p l e rmX0_compare s m args below meth c H locs 0 0 (MQ below (QcM D cy ad A n0 S' (none)) args s 0 0 A) (F0 m 105 ls []) := by
  unfold bX0_compare_105 at hF
  obtain ⟨hx, hb, -, hown, -, hts, -⟩ := id C0
  obtain ⟨v105, hv, hF⟩ := ob hF
  refine lv_iinc (v := v105) (lv' := [(4, .int v105), (0, .ref (ad x0)), (1, .int x1), (2, .int x2), (3, .ref (ad x3))]) hx hb dX0_compare_105 hl (k := 4) rfl (by rw [← vtI hv]; rfl) (by decide) rfl (fun ls hl => ?_)
  refine lv_goto (tgt := 18) hx hb dX0_compare_108 (by decide) ?_
  exact Kh0 _ _ _ _ _ _ (Option.some.inj hF).symm _ _ _ M (lv_sub hl [1, 2, 3, 4, 0] rfl)
set_option maxHeartbeats 4000000 in
set_option maxRecDepth 100000 in
theorem wX0_compare_18 {p : Program} {l : Launch} {e : Env} {s : State} {m : MethodId} {args : Array Value} {below : List Frame} {meth : Method} {c : Code} {D : va_G} {cy : Nat → ClassId} (ad : Nat → Nat) (A : Nat → Prop) {S : MS} {S' : MS} {H : Heap} {locs : List Loc} {n0 : Nat} {out : ((Nat × Int32 × Int32 × Nat × Int32 × MS) ⊕ MS)} {ls : Array Slot} {x0 : Nat} {x1 : Int32} {x2 : Int32} {x3 : Nat} {x4 : Int32} (C0 : CX p s m args meth c RX0 cX0_compare 6 D cy) (M : ST D cy ad A s.heap (ZN n0 s.heap.size) S H locs) (hr : meth.sig.returnType = none) (hF : bX0_compare_18 S x0 x1 x2 x3 x4 = some out) (hl : lv_has ls 6 [(0, .ref (ad x0)), (1, .int x1), (2, .int x2), (3, .ref (ad x3)), (4, .int x4)]) (Kr : ∀ r9, out = .inr r9 → r9 = S') (Kh0 : ∀ (y0 : Nat) (y1 : Int32) (y2 : Int32) (y3 : Nat) (y4 : Int32) (S2 : MS), out = .inl (y0, y1, y2, y3, y4, S2) → ∀ (H1 : Heap) (locs1 : List Loc) (ls1 : Array Slot), ST D cy ad A s.heap (ZN n0 s.heap.size) S2 H1 locs1 → lv_has ls1 6 [(0, .ref (ad y0)), (1, .int y1), (2, .int y2), (3, .ref (ad y3)), (4, .int y4)] → W p l e rmX0_compare s m args below meth c H1 locs1 0 0 (MQ below (QcM D cy ad A n0 S' (none)) args s 0 0 A) (F0 m 18 ls1 [])) : W p l e rmX0_compare s m args below meth c H locs 0 0 (MQ below (QcM D cy ad A n0 S' (none)) args s 0 0 A) (F0 m 18 ls []) := by
  unfold bX0_compare_18 at hF
  obtain ⟨hx, hb, -, hown, -, hts, -⟩ := id C0
  refine lv_iload hx hb dX0_compare_18 (lv_at hl 4 rfl) ?_
  refine lv_sipush (v := (144 : Int32)) hx hb dX0_compare_20 (by decide) ?_
  refine lv_icmp_ge (tgt := 111) hx hb dX0_compare_23 (by decide) (fun hc => ?_) (fun hc => ?_)
  · have hF := oi_t hc hF
    obtain rfl := (Kr _ (Option.some.inj hF).symm)
    exact rt_MV C0 M hr dX0_compare_111
  · have hF := oi_f hc hF
    refine lv_aload_n hx hb dX0_compare_26 rfl (lv_at hl 0 rfl) ?_
    refine lv_iload_n hx hb dX0_compare_27 rfl (lv_at hl 1 rfl) ?_
    refine lv_iload_n hx hb dX0_compare_28 rfl (lv_at hl 2 rfl) ?_
    refine lv_iload hx hb dX0_compare_29 (lv_at hl 4 rfl) ?_
    refine lv_bipush (v := (12 : Int32)) hx hb dX0_compare_31 (by decide) ?_
    refine lv_irem hx hb dX0_compare_33 (by decide) ?_
    refine lv_iload hx hb dX0_compare_34 (lv_at hl 4 rfl) ?_
    refine lv_bipush (v := (12 : Int32)) hx hb dX0_compare_36 (by decide) ?_
    refine lv_idiv hx hb dX0_compare_38 (by decide) ?_
    obtain ⟨_, hrec, hF⟩ := ob hF
    obtain ⟨v39, hcl, hF⟩ := ob hF
    refine go_SI (r_V (rest := []) (As := [.int x1, .int x2, .int (x4 - x4 / (12 : Int32) * (12 : Int32)), .int (x4 / (12 : Int32))]) C0 cb_X0_120 M.1 hrec (tX0_carriedValue l D cy ad A hcl) (pre_R C0 M.1) hl dX0_compare_39 rfl (Nat.le_of_ble_eq_true rfl) ⟨rfl, rfl⟩ ⟨Nat.le_of_ble_eq_true rfl, Nat.le_of_ble_eq_true rfl⟩ ⟨Nat.le_of_ble_eq_true rfl, Nat.le_of_ble_eq_true rfl⟩ rfl) ?_
    refine lv_istore (lv' := [(5, .int v39), (0, .ref (ad x0)), (1, .int x1), (2, .int x2), (3, .ref (ad x3)), (4, .int x4)]) hx hb dX0_compare_42 hl (by decide) rfl (fun ls hl => ?_)
    refine lv_iload hx hb dX0_compare_44 (lv_at hl 0 rfl) ?_
    refine lv_bipush (v := (-9 : Int32)) hx hb dX0_compare_46 (by decide) ?_
    refine lv_icmp_eq (tgt := 105) hx hb dX0_compare_48 (by decide) (fun hc => ?_) (fun hc => ?_)
    · have hF := oi_t hc hF
      exact wX0_compare_105 ad A C0 M hr hF (lv_sub hl [1, 2, 3, 4, 5] rfl) Kr Kh0
    · have hF := oi_f hc hF
      refine lv_aload_n hx hb dX0_compare_51 rfl (lv_at hl 4 rfl) ?_
      refine lv_iload hx hb dX0_compare_52 (lv_at hl 5 rfl) ?_
      obtain ⟨v54, hv, hF⟩ := ob hF
      refine k_ld C0 M.1 hv dX0_compare_54 ?_
      refine lv_bipush (v := (-9 : Int32)) hx hb dX0_compare_55 (by decide) ?_
      refine lv_icmp_eq (tgt := 105) hx hb dX0_compare_57 (by decide) (fun hc => ?_) (fun hc => ?_)
      · have hF := oi_t hc hF
        exact wX0_compare_105 ad A C0 M hr hF (lv_sub hl [1, 2, 3, 4, 5] rfl) Kr Kh0
      · have hF := oi_f hc hF
        refine lv_aload_n hx hb dX0_compare_60 rfl (lv_at hl 1 rfl) ?_
        refine lv_dup hx hb dX0_compare_61 rfl ?_
        obtain ⟨v62, hv, hF⟩ := ob hF
        refine k_getI C0 M.1 hv fl_X0_28 dX0_compare_62 ?_
        refine lv_iconst (v := (1 : Int32)) hx hb dX0_compare_65 (by decide) ?_
        refine lv_iadd hx hb dX0_compare_66 ?_
        obtain ⟨S67, hv, hF⟩ := ob hF
        refine k_sI C0 M hv fl_X0_28 dX0_compare_67 (fun H locs M => ?_)
        refine lv_aload_n hx hb dX0_compare_70 rfl (lv_at hl 1 rfl) ?_
        refine lv_dup hx hb dX0_compare_71 rfl ?_
        obtain ⟨v72, hv, hF⟩ := ob hF
        refine k_getI C0 M.1 hv fl_X0_31 dX0_compare_72 ?_
        refine lv_iload hx hb dX0_compare_75 (lv_at hl 0 rfl) ?_
        refine lv_aload_n hx hb dX0_compare_77 rfl (lv_at hl 4 rfl) ?_
        refine lv_iload hx hb dX0_compare_78 (lv_at hl 5 rfl) ?_
        obtain ⟨v80, hv, hF⟩ := ob hF
        refine k_ld C0 M.1 hv dX0_compare_80 ?_
        refine lv_isub hx hb dX0_compare_81 ?_
        obtain ⟨v82, hcl, hF⟩ := ob hF
        refine go_SI (r_S (rest := [.int v72, .ref (ad x0)]) (As := [.int (v39 - v80)]) C0 cb_X0_97 (tJ9_abs_0f7a4 l D cy ad hcl) (pre_S C0) hl dX0_compare_82 rfl (Nat.le_of_ble_eq_true rfl) ⟨rfl, rfl⟩ ⟨Nat.le_of_ble_eq_true rfl, Nat.le_of_ble_eq_true rfl⟩ ⟨Nat.le_of_ble_eq_true rfl, Nat.le_of_ble_eq_true rfl⟩ rfl) ?_
        refine lv_iadd hx hb dX0_compare_85 ?_
        obtain ⟨S86, hv, hF⟩ := ob hF
        refine k_sI C0 M hv fl_X0_31 dX0_compare_86 (fun H locs M => ?_)
        refine lv_aload_n hx hb dX0_compare_89 rfl (lv_at hl 1 rfl) ?_
        refine lv_dup hx hb dX0_compare_90 rfl ?_
        obtain ⟨v91, hv, hF⟩ := ob hF
        refine k_getI C0 M.1 hv fl_X0_34 dX0_compare_91 ?_
        refine lv_iload hx hb dX0_compare_94 (lv_at hl 0 rfl) ?_
        refine lv_aload_n hx hb dX0_compare_96 rfl (lv_at hl 4 rfl) ?_
        refine lv_iload hx hb dX0_compare_97 (lv_at hl 5 rfl) ?_
        obtain ⟨v99, hv, hF⟩ := ob hF
        refine k_ld C0 M.1 hv dX0_compare_99 ?_
        refine lv_isub hx hb dX0_compare_100 ?_
        refine lv_iadd hx hb dX0_compare_101 ?_
        obtain ⟨S102, hv, hF⟩ := ob hF
        refine k_sI C0 M hv fl_X0_34 dX0_compare_102 (fun H locs M => ?_)
        exact wX0_compare_105 ad A C0 M hr hF (lv_sub hl [1, 2, 3, 4, 5] rfl) Kr Kh0
set_option maxHeartbeats 4000000 in
set_option maxRecDepth 100000 in
theorem tX0_compare (l : Launch) (D : va_G) (cy : Nat → ClassId) (ad : Nat → Nat) (A : Nat → Prop) {S S' : MS} {a0 : Nat} {a1 : Int32} {a2 : Int32} {a3 : Nat} (h : fX0_compare S a0 a1 a2 a3 = some S') : Met l yX0_compare [Cond.code yX0_compare cX0_compare 6 (none)] rmX0_compare (PcR D cy ad A S [.ref (ad a0), .int a1, .int a2, .ref (ad a3)]) (QcM D cy ad A (m_n S) S' (none)) 0 0 A := by
  refine met_M (by decide +kernel) cw_X0_compare (Nat.le_of_ble_eq_true rfl) ?_
  intro p e s m args below meth c ls C0 M hr hin hl
  have hl : lv_has ls 6 [(0, .ref (ad a0)), (1, .int a1), (2, .int a2), (3, .ref (ad a3))] := hl
  have key := lim_walk (step := sX0_compare) (fun (q : (Nat × Int32 × Int32 × Nat × Int32 × MS)) (r9 : MS) => ∀ (S' : MS), r9 = S' → ((∀ (y0 : Nat) (y1 : Int32) (y2 : Int32) (y3 : Nat) (y4 : Int32) (S2 : MS), q = (y0, y1, y2, y3, y4, S2) → ∀ (H1 : Heap) (locs1 : List Loc) (ls1 : Array Slot), ST D cy ad A s.heap (ZN (m_n S) s.heap.size) S2 H1 locs1 → lv_has ls1 6 [(0, .ref (ad y0)), (1, .int y1), (2, .int y2), (3, .ref (ad y3)), (4, .int y4)] → W p l e rmX0_compare s m args below meth c H1 locs1 0 0 (MQ below (QcM D cy ad A (m_n S) S' (none)) args s 0 0 A) (F0 m 18 ls1 [])))) ?_
  · unfold fX0_compare at h
    cases hs0 : bX0_compare_0 S a0 a1 a2 a3 with
    | none => rw [hs0] at h; cases h
    | some out =>
      rw [hs0] at h
      refine wX0_compare_0 ad A C0 M hr hs0 hl (fun r9 hr9 => ?_) ?_
      · subst hr9; exact Option.some.inj h
      · intro y0 y1 y2 y3 y4 y5 hq; subst hq; exact (key _ _ h _ rfl) _ _ _ _ _ _ rfl
  · intro q r9 out hst hre hin9
    intro S' er; subst er
    refine ?_
    · intro y0 y1 y2 y3 y4 y5 hq H1 locs1 ls1 M hl
      subst hq
      exact wX0_compare_18 ad A C0 M hr hst hl hre (fun k0 k1 k2 k3 k4 k5 hk => (hin9 _ hk _ rfl) _ _ _ _ _ _ rfl)
set_option maxHeartbeats 4000000 in
set_option maxRecDepth 100000 in
theorem wX9_beside_22 {p : Program} {l : Launch} {e : Env} {s : State} {m : MethodId} {args : Array Value} {below : List Frame} {meth : Method} {c : Code} {D : va_G} {cy : Nat → ClassId} (ad : Nat → Nat) (A : Nat → Prop) {S : MS} {S' : MS} {H : Heap} {locs : List Loc} {n0 : Nat} {r : Int64} {ls : Array Slot} (C0 : CX p s m args meth c RX9 cX9_beside 6 D cy) (M : ST D cy ad A s.heap (ZN n0 s.heap.size) S H locs) (hr : meth.sig.returnType = some .long) (hF : bX9_beside_22 S = some (r, S')) (hl : lv_has ls 6 []) : W p l e rmX9_beside s m args below meth c H locs 0 0 (MQ below (QcM D cy ad A n0 S' (some (.long r))) args s 0 0 A) (F0 m 22 ls []) := by
  unfold bX9_beside_22 at hF
  obtain ⟨hx, hb, -, hown, -, hts, -⟩ := id C0
  refine lv_ldc2 (v := (-9223372036854775808 : Int64)) hx hb hown (hts _ (uw_of 901 (by decide +kernel) rfl)) dX9_beside_22 ?_
  obtain ⟨rfl, rfl⟩ := Prod.mk.inj (Option.some.inj hF)
  exact rt_ML C0 M hr dX9_beside_25
set_option maxHeartbeats 4000000 in
set_option maxRecDepth 100000 in
theorem wX9_beside_53 {p : Program} {l : Launch} {e : Env} {s : State} {m : MethodId} {args : Array Value} {below : List Frame} {meth : Method} {c : Code} {D : va_G} {cy : Nat → ClassId} (ad : Nat → Nat) (A : Nat → Prop) {S : MS} {S' : MS} {H : Heap} {locs : List Loc} {n0 : Nat} {r : Int64} {ls : Array Slot} (C0 : CX p s m args meth c RX9 cX9_beside 6 D cy) (M : ST D cy ad A s.heap (ZN n0 s.heap.size) S H locs) (hr : meth.sig.returnType = some .long) (hF : bX9_beside_53 S = some (r, S')) (hl : lv_has ls 6 []) : W p l e rmX9_beside s m args below meth c H locs 0 0 (MQ below (QcM D cy ad A n0 S' (some (.long r))) args s 0 0 A) (F0 m 53 ls []) := by
  unfold bX9_beside_53 at hF
  obtain ⟨hx, hb, -, hown, -, hts, -⟩ := id C0
  refine lv_ldc2 (v := (-9223372036854775808 : Int64)) hx hb hown (hts _ (uw_of 901 (by decide +kernel) rfl)) dX9_beside_53 ?_
  obtain ⟨rfl, rfl⟩ := Prod.mk.inj (Option.some.inj hF)
  exact rt_ML C0 M hr dX9_beside_56
set_option maxHeartbeats 4000000 in
set_option maxRecDepth 100000 in
theorem wX9_beside_0 {p : Program} {l : Launch} {e : Env} {s : State} {m : MethodId} {args : Array Value} {below : List Frame} {meth : Method} {c : Code} {D : va_G} {cy : Nat → ClassId} (ad : Nat → Nat) (A : Nat → Prop) {S : MS} {S' : MS} {H : Heap} {locs : List Loc} {n0 : Nat} {r : Int64} {ls : Array Slot} {x0 : Nat} {x1 : Int32} {x2 : Int32} {x3 : Int32} {x4 : Int32} (C0 : CX p s m args meth c RX9 cX9_beside 6 D cy) (M : ST D cy ad A s.heap (ZN n0 s.heap.size) S H locs) (hr : meth.sig.returnType = some .long) (hF : bX9_beside_0 S x0 x1 x2 x3 x4 = some (r, S')) (hl : lv_has ls 6 [(0, .ref (ad x0)), (1, .int x1), (2, .int x2), (3, .int x3), (4, .int x4)]) : W p l e rmX9_beside s m args below meth c H locs 0 0 (MQ below (QcM D cy ad A n0 S' (some (.long r))) args s 0 0 A) (F0 m 0 ls []) := by
  unfold bX9_beside_0 at hF
  obtain ⟨hx, hb, -, hown, -, hts, -⟩ := id C0
  refine lv_iload_n hx hb dX9_beside_0 rfl (lv_at hl 1 rfl) ?_
  refine lv_bipush (v := (-11 : Int32)) hx hb dX9_beside_1 (by decide) ?_
  refine lv_bipush (v := (11 : Int32)) hx hb dX9_beside_3 (by decide) ?_
  obtain ⟨v5, hcl, hF⟩ := ob hF
  refine go_SI (r_S (rest := []) (As := [.int x1, .int (-11 : Int32), .int (11 : Int32)]) C0 cb_X9_86 (tX9_isWithin l D cy ad hcl) (pre_S C0) hl dX9_beside_5 rfl (Nat.le_of_ble_eq_true rfl) ⟨rfl, rfl⟩ ⟨Nat.le_of_ble_eq_true rfl, Nat.le_of_ble_eq_true rfl⟩ ⟨Nat.le_of_ble_eq_true rfl, Nat.le_of_ble_eq_true rfl⟩ rfl) ?_
  refine lv_if_eq (tgt := 22) hx hb dX9_beside_8 (by decide) (fun hc => ?_) (fun hc => ?_)
  · have hF := oi_t hc hF
    exact wX9_beside_22 ad A C0 M hr hF (lv_sub hl [] rfl)
  · have hF := oi_f hc hF
    refine lv_iload_n hx hb dX9_beside_11 rfl (lv_at hl 2 rfl) ?_
    refine lv_bipush (v := (-11 : Int32)) hx hb dX9_beside_12 (by decide) ?_
    refine lv_bipush (v := (11 : Int32)) hx hb dX9_beside_14 (by decide) ?_
    obtain ⟨v16, hcl, hF⟩ := ob hF
    refine go_SI (r_S (rest := []) (As := [.int x2, .int (-11 : Int32), .int (11 : Int32)]) C0 cb_X9_86 (tX9_isWithin l D cy ad hcl) (pre_S C0) hl dX9_beside_16 rfl (Nat.le_of_ble_eq_true rfl) ⟨rfl, rfl⟩ ⟨Nat.le_of_ble_eq_true rfl, Nat.le_of_ble_eq_true rfl⟩ ⟨Nat.le_of_ble_eq_true rfl, Nat.le_of_ble_eq_true rfl⟩ rfl) ?_
    refine lv_if_ne (tgt := 26) hx hb dX9_beside_19 (by decide) (fun hc => ?_) (fun hc => ?_)
    · have hF := oi_f hc hF
      refine lv_iload hx hb dX9_beside_26 (lv_at hl 4 rfl) ?_
      refine lv_iconst (v := (0 : Int32)) hx hb dX9_beside_28 (by decide) ?_
      refine lv_iconst (v := (2 : Int32)) hx hb dX9_beside_29 (by decide) ?_
      obtain ⟨v30, hcl, hF⟩ := ob hF
      refine go_SI (r_S (rest := []) (As := [.int x4, .int (0 : Int32), .int (2 : Int32)]) C0 cb_X9_86 (tX9_isWithin l D cy ad hcl) (pre_S C0) hl dX9_beside_30 rfl (Nat.le_of_ble_eq_true rfl) ⟨rfl, rfl⟩ ⟨Nat.le_of_ble_eq_true rfl, Nat.le_of_ble_eq_true rfl⟩ ⟨Nat.le_of_ble_eq_true rfl, Nat.le_of_ble_eq_true rfl⟩ rfl) ?_
      refine lv_if_eq (tgt := 53) hx hb dX9_beside_33 (by decide) (fun hc => ?_) (fun hc => ?_)
      · have hF := oi_t hc hF
        exact wX9_beside_53 ad A C0 M hr hF (lv_sub hl [] rfl)
      · have hF := oi_f hc hF
        refine lv_iload_n hx hb dX9_beside_36 rfl (lv_at hl 3 rfl) ?_
        refine lv_iconst (v := (4 : Int32)) hx hb dX9_beside_37 (by decide) ?_
        obtain ⟨v38, hcl, hF⟩ := ob hF
        refine go_SI (r_S (rest := []) (As := [.int x3, .int (4 : Int32)]) C0 cb_X9_79 (tX9_isBelow l D cy ad hcl) (pre_S C0) hl dX9_beside_38 rfl (Nat.le_of_ble_eq_true rfl) ⟨rfl, rfl⟩ ⟨Nat.le_of_ble_eq_true rfl, Nat.le_of_ble_eq_true rfl⟩ ⟨Nat.le_of_ble_eq_true rfl, Nat.le_of_ble_eq_true rfl⟩ rfl) ?_
        refine lv_if_eq (tgt := 53) hx hb dX9_beside_41 (by decide) (fun hc => ?_) (fun hc => ?_)
        · have hF := oi_t hc hF
          exact wX9_beside_53 ad A C0 M hr hF (lv_sub hl [] rfl)
        · have hF := oi_f hc hF
          refine lv_aload_n hx hb dX9_beside_44 rfl (lv_at hl 0 rfl) ?_
          obtain ⟨v45, hv, hF⟩ := ob hF
          refine k_getP C0 M.1 hv fl_X9_58 dX9_beside_45 ?_
          refine lv_iload_n hx hb dX9_beside_48 rfl (lv_at hl 3 rfl) ?_
          obtain ⟨v49, hv, hF⟩ := ob hF
          refine k_ldZ C0 M.1 hv dX9_beside_49 ?_
          refine lv_if_ne (tgt := 57) hx hb dX9_beside_50 (by decide) (fun hc => ?_) (fun hc => ?_)
          · have hF := oi_f hc hF
            refine lv_aload_n hx hb dX9_beside_57 rfl (lv_at hl 0 rfl) ?_
            obtain ⟨_, hrec, hF⟩ := ob hF
            obtain ⟨v58, S58, hcl, hF⟩ := ob2 hF
            refine go_MP (r_V (rest := []) (As := []) C0 cb_X9_137 M.1 hrec (tX9_settledChart l D cy ad A hcl) (pre_R C0 M.1) hl dX9_beside_58 rfl (Nat.le_of_ble_eq_true rfl) ⟨rfl, rfl⟩ ⟨Nat.le_of_ble_eq_true rfl, Nat.le_of_ble_eq_true rfl⟩ ⟨Nat.le_of_ble_eq_true rfl, Nat.le_of_ble_eq_true rfl⟩ rfl) M (fun H locs M => ?_)
            refine lv_astore (lv' := [(5, .ref (ad v58)), (0, .ref (ad x0)), (1, .int x1), (2, .int x2), (3, .int x3), (4, .int x4)]) hx hb dX9_beside_61 hl (by decide) rfl (fun ls hl => ?_)
            refine lv_aload hx hb dX9_beside_63 (lv_at hl 0 rfl) ?_
            refine lv_iload_n hx hb dX9_beside_65 rfl (lv_at hl 2 rfl) ?_
            refine lv_iload_n hx hb dX9_beside_66 rfl (lv_at hl 3 rfl) ?_
            refine lv_aload_n hx hb dX9_beside_67 rfl (lv_at hl 1 rfl) ?_
            obtain ⟨v68, hv, hF⟩ := ob hF
            refine k_getP C0 M.1 hv fl_X9_55 dX9_beside_68 ?_
            refine lv_iload_n hx hb dX9_beside_71 rfl (lv_at hl 4 rfl) ?_
            obtain ⟨v72, hv, hF⟩ := ob hF
            refine k_ldP (ty := (.array .int)) 4 C0 M.1 (by decide) rfl rfl hv dX9_beside_72 ?_
            obtain ⟨_, hrec, hF⟩ := ob hF
            obtain ⟨S73, hcl, hF⟩ := ob hF
            refine go_MV (r_V (rest := []) (As := [.int x1, .int x2, .ref (ad v72)]) C0 cb_X9_306 M.1 hrec (tX0_compare l D cy ad A hcl) (pre_R C0 M.1) hl dX9_beside_73 rfl (Nat.le_of_ble_eq_true rfl) ⟨rfl, rfl⟩ ⟨Nat.le_of_ble_eq_true rfl, Nat.le_of_ble_eq_true rfl⟩ ⟨Nat.le_of_ble_eq_true rfl, Nat.le_of_ble_eq_true rfl⟩ rfl) M (fun H locs M => ?_)
            refine lv_iload hx hb dX9_beside_76 (lv_at hl 5 rfl) ?_
            by_cases hc0 : x4 = (0 : Int32)
            · have hF := oi_t hc0 hF
              refine lv_lookup (tgt := 104) (off := 26) hx hb dX9_beside_78 (by decide) (by rw [hc0]; rfl) (by decide) ?_
              refine lv_aload hx hb dX9_beside_104 (lv_at hl 0 rfl) ?_
              obtain ⟨v106, hv, hF⟩ := ob hF
              refine k_getI C0 M.1 hv fl_X9_310 dX9_beside_106 ?_
              refine lv_i2l (v := (v106.toInt64)) hx hb dX9_beside_109 rfl ?_
              obtain ⟨rfl, rfl⟩ := Prod.mk.inj (Option.some.inj hF)
              exact rt_ML C0 M hr dX9_beside_110
            have hF := oi_f hc0 hF
            by_cases hc1 : x4 = (1 : Int32)
            · have hF := oi_t hc1 hF
              refine lv_lookup (tgt := 111) (off := 33) hx hb dX9_beside_78 (by decide) (by rw [hc1]; rfl) (by decide) ?_
              refine lv_aload hx hb dX9_beside_111 (lv_at hl 0 rfl) ?_
              obtain ⟨v113, hv, hF⟩ := ob hF
              refine k_getI C0 M.1 hv fl_X9_313 dX9_beside_113 ?_
              refine lv_i2l (v := (v113.toInt64)) hx hb dX9_beside_116 rfl ?_
              obtain ⟨rfl, rfl⟩ := Prod.mk.inj (Option.some.inj hF)
              exact rt_ML C0 M hr dX9_beside_117
            have hF := oi_f hc1 hF
            refine lv_lookup (tgt := 118) (off := 40) hx hb dX9_beside_78 (by decide) (by have hd0 : ¬ x4.toInt = 0 := tne hc0 (by decide); have hd1 : ¬ x4.toInt = 1 := tne hc1 (by decide); simp [Op.lookupswitch.offset, hd0, hd1, Ne.symm hd0, Ne.symm hd1]) (by decide) ?_
            refine lv_aload hx hb dX9_beside_118 (lv_at hl 0 rfl) ?_
            obtain ⟨v120, hv, hF⟩ := ob hF
            refine k_getI C0 M.1 hv fl_X9_316 dX9_beside_120 ?_
            refine lv_i2l (v := (v120.toInt64)) hx hb dX9_beside_123 rfl ?_
            obtain ⟨rfl, rfl⟩ := Prod.mk.inj (Option.some.inj hF)
            exact rt_ML C0 M hr dX9_beside_124
          · have hF := oi_t hc hF
            exact wX9_beside_53 ad A C0 M hr hF (lv_sub hl [] rfl)
    · have hF := oi_t hc hF
      exact wX9_beside_22 ad A C0 M hr hF (lv_sub hl [] rfl)
set_option maxHeartbeats 4000000 in
set_option maxRecDepth 100000 in
theorem tX9_beside (l : Launch) (D : va_G) (cy : Nat → ClassId) (ad : Nat → Nat) (A : Nat → Prop) {S S' : MS} {a0 : Nat} {a1 : Int32} {a2 : Int32} {a3 : Int32} {a4 : Int32} {r : Int64} (h : fX9_beside S a0 a1 a2 a3 a4 = some (r, S')) : Met l yX9_beside [Cond.code yX9_beside cX9_beside 6 (some .long)] rmX9_beside (PcR D cy ad A S [.ref (ad a0), .int a1, .int a2, .int a3, .int a4]) (QcM D cy ad A (m_n S) S' (some (.long r))) 0 0 A := by
  refine met_M (by decide +kernel) cw_X9_beside (Nat.le_of_ble_eq_true rfl) ?_
  intro p e s m args below meth c ls C0 M hr hin hl
  have hl : lv_has ls 6 [(0, .ref (ad a0)), (1, .int a1), (2, .int a2), (3, .int a3), (4, .int a4)] := hl
  exact wX9_beside_0 ad A C0 M hr h hl
set_option maxHeartbeats 4000000 in
set_option maxRecDepth 100000 in
theorem wX9_isSheet_0 {p : Program} {l : Launch} {e : Env} {s : State} {m : MethodId} {args : Array Value} {below : List Frame} {meth : Method} {c : Code} {D : va_G} {cy : Nat → ClassId} (ad : Nat → Nat) (A : Nat → Prop) {r : Int32} {ls : Array Slot} {x0 : Int32} (C0 : CX p s m args meth c RX9 cX9_isSheet 1 D cy) (hr : meth.sig.returnType = some .boolean) (hF : bX9_isSheet_0 x0 = some r) (hl : lv_has ls 1 [(0, .int x0)]) : W p l e rmX9_isSheet s m args below meth c s.heap [] 0 0 (MQ below (QcS (some (.int r))) args s 0 0 (fun _ => False)) (F0 m 0 ls []) := by
  unfold bX9_isSheet_0 at hF
  obtain ⟨hx, hb, -, hown, -, hts, -⟩ := id C0
  refine lv_iload_n hx hb dX9_isSheet_0 rfl (lv_at hl 0 rfl) ?_
  refine lv_iconst (v := (4 : Int32)) hx hb dX9_isSheet_1 (by decide) ?_
  obtain ⟨v2, hcl, hF⟩ := ob hF
  refine go_SI (r_S (rest := []) (As := [.int x0, .int (4 : Int32)]) C0 cb_X9_79 (tX9_isBelow l D cy ad hcl) (pre_S C0) hl dX9_isSheet_2 rfl (Nat.le_of_ble_eq_true rfl) ⟨rfl, rfl⟩ ⟨Nat.le_of_ble_eq_true rfl, Nat.le_of_ble_eq_true rfl⟩ ⟨Nat.le_of_ble_eq_true rfl, Nat.le_of_ble_eq_true rfl⟩ rfl) ?_
  obtain ⟨z5, hz, hF⟩ := ob hF
  have hz2 := (o_if hz).2
  refine vtopi hz2 ?_
  rw [hz2] at hz
  obtain rfl := (Option.some.inj hF)
  exact rt_SZ C0 hr hz dX9_isSheet_5
set_option maxHeartbeats 4000000 in
set_option maxRecDepth 100000 in
theorem tX9_isSheet (l : Launch) (D : va_G) (cy : Nat → ClassId) (ad : Nat → Nat) {a0 : Int32} {r : Int32} (h : fX9_isSheet a0 = some r) : Met l yX9_isSheet [Cond.code yX9_isSheet cX9_isSheet 1 (some .boolean)] rmX9_isSheet (PcS D cy [.int a0]) (QcS (some (.int r))) 0 0 (fun _ => False) := by
  refine met_S (by decide +kernel) cw_X9_isSheet (Nat.le_of_ble_eq_true rfl) ?_
  intro p e s m args below meth c ls C0 hr hl
  have hl : lv_has ls 1 [(0, .int a0)] := hl
  exact wX9_isSheet_0 ad (fun _ => False) C0 hr h hl
set_option maxHeartbeats 4000000 in
set_option maxRecDepth 100000 in
theorem wX7_hasCells_28 {p : Program} {l : Launch} {e : Env} {s : State} {m : MethodId} {args : Array Value} {below : List Frame} {meth : Method} {c : Code} {D : va_G} {cy : Nat → ClassId} (ad : Nat → Nat) (A : Nat → Prop) {S : MS} {r : Int32} {ls : Array Slot} {z0 : Int32} (C0 : CX p s m args meth c RX7 cX7_hasCells 4 D cy) (M : MW D cy ad A S s.heap) (hr : meth.sig.returnType = some .boolean) (hF : bX7_hasCells_28 S z0 = some r) (hl : lv_has ls 4 []) : W p l e rmX7_hasCells s m args below meth c s.heap [] 0 0 (MQ below (QcS (some (.int r))) args s 0 0 (fun _ => False)) (F0 m 28 ls [.int z0]) := by
  unfold bX7_hasCells_28 at hF
  obtain ⟨hx, hb, -, hown, -, hts, -⟩ := id C0
  obtain ⟨z28, hz, hF⟩ := ob hF
  have hz2 := (o_if hz).2
  refine vtopi hz2 ?_
  rw [hz2] at hz
  obtain rfl := (Option.some.inj hF)
  exact rt_SZ C0 hr hz dX7_hasCells_28
set_option maxHeartbeats 4000000 in
set_option maxRecDepth 100000 in
theorem wX7_hasCells_27 {p : Program} {l : Launch} {e : Env} {s : State} {m : MethodId} {args : Array Value} {below : List Frame} {meth : Method} {c : Code} {D : va_G} {cy : Nat → ClassId} (ad : Nat → Nat) (A : Nat → Prop) {S : MS} {r : Int32} {ls : Array Slot} (C0 : CX p s m args meth c RX7 cX7_hasCells 4 D cy) (M : MW D cy ad A S s.heap) (hr : meth.sig.returnType = some .boolean) (hF : bX7_hasCells_27 S = some r) (hl : lv_has ls 4 []) : W p l e rmX7_hasCells s m args below meth c s.heap [] 0 0 (MQ below (QcS (some (.int r))) args s 0 0 (fun _ => False)) (F0 m 27 ls []) := by
  unfold bX7_hasCells_27 at hF
  obtain ⟨hx, hb, -, hown, -, hts, -⟩ := id C0
  refine lv_iconst (v := (0 : Int32)) hx hb dX7_hasCells_27 (by decide) ?_
  exact wX7_hasCells_28 ad A C0 M hr hF (lv_sub hl [] rfl)
set_option maxHeartbeats 4000000 in
set_option maxRecDepth 100000 in
theorem wX7_hasCells_0 {p : Program} {l : Launch} {e : Env} {s : State} {m : MethodId} {args : Array Value} {below : List Frame} {meth : Method} {c : Code} {D : va_G} {cy : Nat → ClassId} (ad : Nat → Nat) (A : Nat → Prop) {S : MS} {r : Int32} {ls : Array Slot} {x0 : Nat} {x1 : Int32} {x2 : Int64} (C0 : CX p s m args meth c RX7 cX7_hasCells 4 D cy) (M : MW D cy ad A S s.heap) (hr : meth.sig.returnType = some .boolean) (hF : bX7_hasCells_0 S x0 x1 x2 = some r) (hl : lv_has ls 4 [(0, .ref (ad x0)), (1, .int x1), (2, .long x2)]) : W p l e rmX7_hasCells s m args below meth c s.heap [] 0 0 (MQ below (QcS (some (.int r))) args s 0 0 (fun _ => False)) (F0 m 0 ls []) := by
  unfold bX7_hasCells_0 at hF
  obtain ⟨hx, hb, -, hown, -, hts, -⟩ := id C0
  refine lv_iload_n hx hb dX7_hasCells_0 rfl (lv_at hl 1 rfl) ?_
  refine lv_if_lt (tgt := 27) hx hb dX7_hasCells_1 (by decide) (fun hc => ?_) (fun hc => ?_)
  · have hF := oi_t hc hF
    exact wX7_hasCells_27 ad A C0 M hr hF (lv_sub hl [] rfl)
  · have hF := oi_f hc hF
    refine lv_lload_n hx hb dX7_hasCells_4 rfl (lv_at hl 2 rfl) ?_
    refine lv_lconst (v := (0 : Int64)) hx hb dX7_hasCells_5 (by decide) ?_
    refine W.lcmp hx hb dX7_hasCells_6 ?_
    refine lv_if_lt (tgt := 27) hx hb dX7_hasCells_7 (by decide) (fun hc => ?_) (fun hc => ?_)
    · have hF := oi_t hc hF
      exact wX7_hasCells_27 ad A C0 M hr hF (lv_sub hl [] rfl)
    · have hF := oi_f hc hF
      refine lv_iload_n hx hb dX7_hasCells_10 rfl (lv_at hl 1 rfl) ?_
      refine lv_i2l (v := (x1.toInt64)) hx hb dX7_hasCells_11 rfl ?_
      refine lv_lload_n hx hb dX7_hasCells_12 rfl (lv_at hl 2 rfl) ?_
      refine lv_ladd hx hb dX7_hasCells_13 ?_
      refine lv_aload_n hx hb dX7_hasCells_14 rfl (lv_at hl 0 rfl) ?_
      obtain ⟨v15, hv, hF⟩ := ob hF
      refine k_getI C0 M hv fl_X7_15 dX7_hasCells_15 ?_
      refine lv_i2l (v := (v15.toInt64)) hx hb dX7_hasCells_18 rfl ?_
      refine W.lcmp hx hb dX7_hasCells_19 ?_
      refine lv_if_gt (tgt := 27) hx hb dX7_hasCells_20 (by decide) (fun hc => ?_) (fun hc => ?_)
      · have hF := oi_t hc hF
        exact wX7_hasCells_27 ad A C0 M hr hF (lv_sub hl [] rfl)
      · have hF := oi_f hc hF
        refine lv_iconst (v := (1 : Int32)) hx hb dX7_hasCells_23 (by decide) ?_
        refine lv_goto (tgt := 28) hx hb dX7_hasCells_24 (by decide) ?_
        exact wX7_hasCells_28 ad A C0 M hr hF (lv_sub hl [] rfl)
set_option maxHeartbeats 4000000 in
set_option maxRecDepth 100000 in
theorem tX7_hasCells (l : Launch) (D : va_G) (cy : Nat → ClassId) (ad : Nat → Nat) (A : Nat → Prop) {S : MS} {a0 : Nat} {a1 : Int32} {a2 : Int64} {r : Int32} (h : fX7_hasCells S a0 a1 a2 = some r) : Met l yX7_hasCells [Cond.code yX7_hasCells cX7_hasCells 4 (some .boolean)] rmX7_hasCells (PcR D cy ad A S [.ref (ad a0), .int a1, .long a2]) (QcS (some (.int r))) 0 0 (fun _ => False) := by
  refine met_R (by decide +kernel) cw_X7_hasCells (Nat.le_of_ble_eq_true rfl) ?_
  intro p e s m args below meth c ls C0 M hr hl
  have hl : lv_has ls 4 [(0, .ref (ad a0)), (1, .int a1), (2, .long a2)] := hl
  exact wX7_hasCells_0 ad A C0 M hr h hl
set_option maxHeartbeats 4000000 in
set_option maxRecDepth 100000 in
theorem wX7_isEmpty_13 {p : Program} {l : Launch} {e : Env} {s : State} {m : MethodId} {args : Array Value} {below : List Frame} {meth : Method} {c : Code} {D : va_G} {cy : Nat → ClassId} (ad : Nat → Nat) (A : Nat → Prop) {S : MS} {r : Int32} {ls : Array Slot} {z0 : Int32} (C0 : CX p s m args meth c RX7 cX7_isEmpty 1 D cy) (M : MW D cy ad A S s.heap) (hr : meth.sig.returnType = some .boolean) (hF : bX7_isEmpty_13 S z0 = some r) (hl : lv_has ls 1 []) : W p l e rmX7_isEmpty s m args below meth c s.heap [] 0 0 (MQ below (QcS (some (.int r))) args s 0 0 (fun _ => False)) (F0 m 13 ls [.int z0]) := by
  unfold bX7_isEmpty_13 at hF
  obtain ⟨hx, hb, -, hown, -, hts, -⟩ := id C0
  obtain ⟨z13, hz, hF⟩ := ob hF
  have hz2 := (o_if hz).2
  refine vtopi hz2 ?_
  rw [hz2] at hz
  obtain rfl := (Option.some.inj hF)
  exact rt_SZ C0 hr hz dX7_isEmpty_13
set_option maxHeartbeats 4000000 in
set_option maxRecDepth 100000 in
theorem wX7_isEmpty_0 {p : Program} {l : Launch} {e : Env} {s : State} {m : MethodId} {args : Array Value} {below : List Frame} {meth : Method} {c : Code} {D : va_G} {cy : Nat → ClassId} (ad : Nat → Nat) (A : Nat → Prop) {S : MS} {r : Int32} {ls : Array Slot} {x0 : Nat} (C0 : CX p s m args meth c RX7 cX7_isEmpty 1 D cy) (M : MW D cy ad A S s.heap) (hr : meth.sig.returnType = some .boolean) (hF : bX7_isEmpty_0 S x0 = some r) (hl : lv_has ls 1 [(0, .ref (ad x0))]) : W p l e rmX7_isEmpty s m args below meth c s.heap [] 0 0 (MQ below (QcS (some (.int r))) args s 0 0 (fun _ => False)) (F0 m 0 ls []) := by
  unfold bX7_isEmpty_0 at hF
  obtain ⟨hx, hb, -, hown, -, hts, -⟩ := id C0
  refine lv_aload_n hx hb dX7_isEmpty_0 rfl (lv_at hl 0 rfl) ?_
  obtain ⟨v1, hv, hF⟩ := ob hF
  refine k_getI C0 M hv fl_X7_11 dX7_isEmpty_1 ?_
  refine lv_iconst (v := (-1 : Int32)) hx hb dX7_isEmpty_4 (by decide) ?_
  refine lv_icmp_ne (tgt := 12) hx hb dX7_isEmpty_5 (by decide) (fun hc => ?_) (fun hc => ?_)
  · have hF := oi_f hc hF
    refine lv_iconst (v := (0 : Int32)) hx hb dX7_isEmpty_12 (by decide) ?_
    exact wX7_isEmpty_13 ad A C0 M hr hF (lv_sub hl [] rfl)
  · have hF := oi_t hc hF
    refine lv_iconst (v := (1 : Int32)) hx hb dX7_isEmpty_8 (by decide) ?_
    refine lv_goto (tgt := 13) hx hb dX7_isEmpty_9 (by decide) ?_
    exact wX7_isEmpty_13 ad A C0 M hr hF (lv_sub hl [] rfl)
set_option maxHeartbeats 4000000 in
set_option maxRecDepth 100000 in
theorem tX7_isEmpty (l : Launch) (D : va_G) (cy : Nat → ClassId) (ad : Nat → Nat) (A : Nat → Prop) {S : MS} {a0 : Nat} {r : Int32} (h : fX7_isEmpty S a0 = some r) : Met l yX7_isEmpty [Cond.code yX7_isEmpty cX7_isEmpty 1 (some .boolean)] rmX7_isEmpty (PcR D cy ad A S [.ref (ad a0)]) (QcS (some (.int r))) 0 0 (fun _ => False) := by
  refine met_R (by decide +kernel) cw_X7_isEmpty (Nat.le_of_ble_eq_true rfl) ?_
  intro p e s m args below meth c ls C0 M hr hl
  have hl : lv_has ls 1 [(0, .ref (ad a0))] := hl
  exact wX7_isEmpty_0 ad A C0 M hr h hl
set_option maxHeartbeats 4000000 in
set_option maxRecDepth 100000 in
theorem wX7_faultOfTaking_48 {p : Program} {l : Launch} {e : Env} {s : State} {m : MethodId} {args : Array Value} {below : List Frame} {meth : Method} {c : Code} {D : va_G} {cy : Nat → ClassId} (ad : Nat → Nat) (A : Nat → Prop) {S : MS} {r : Int32} {ls : Array Slot} {z0 : Int32} (C0 : CX p s m args meth c RX7 cX7_faultOfTaking 5 D cy) (M : MW D cy ad A S s.heap) (hr : meth.sig.returnType = some .int) (hF : bX7_faultOfTaking_48 S z0 = some r) (hl : lv_has ls 5 []) : W p l e rmX7_faultOfTaking s m args below meth c s.heap [] 0 0 (MQ below (QcS (some (.int r))) args s 0 0 (fun _ => False)) (F0 m 48 ls [.int z0]) := by
  unfold bX7_faultOfTaking_48 at hF
  obtain ⟨hx, hb, -, hown, -, hts, -⟩ := id C0
  obtain rfl := (Option.some.inj hF)
  exact rt_SI C0 hr dX7_faultOfTaking_48
set_option maxHeartbeats 4000000 in
set_option maxRecDepth 100000 in
theorem wX7_faultOfTaking_17 {p : Program} {l : Launch} {e : Env} {s : State} {m : MethodId} {args : Array Value} {below : List Frame} {meth : Method} {c : Code} {D : va_G} {cy : Nat → ClassId} (ad : Nat → Nat) (A : Nat → Prop) {S : MS} {r : Int32} {ls : Array Slot} {x0 : Nat} {x2 : Int32} {x3 : Int64} (C0 : CX p s m args meth c RX7 cX7_faultOfTaking 5 D cy) (M : MW D cy ad A S s.heap) (hr : meth.sig.returnType = some .int) (hF : bX7_faultOfTaking_17 S x0 x2 x3 = some r) (hl : lv_has ls 5 [(0, .ref (ad x0)), (2, .int x2), (3, .long x3)]) : W p l e rmX7_faultOfTaking s m args below meth c s.heap [] 0 0 (MQ below (QcS (some (.int r))) args s 0 0 (fun _ => False)) (F0 m 17 ls []) := by
  unfold bX7_faultOfTaking_17 at hF
  obtain ⟨hx, hb, -, hown, -, hts, -⟩ := id C0
  refine lv_aload_n hx hb dX7_faultOfTaking_17 rfl (lv_at hl 0 rfl) ?_
  obtain ⟨_, hrec, hF⟩ := ob hF
  obtain ⟨v18, hcl, hF⟩ := ob hF
  refine go_SI (r_V (rest := []) (As := []) C0 cb_X7_28 M hrec (tX7_isEmpty l D cy ad A hcl) (pre_R C0 M) hl dX7_faultOfTaking_18 rfl (Nat.le_of_ble_eq_true rfl) ⟨rfl, rfl⟩ ⟨Nat.le_of_ble_eq_true rfl, Nat.le_of_ble_eq_true rfl⟩ ⟨Nat.le_of_ble_eq_true rfl, Nat.le_of_ble_eq_true rfl⟩ rfl) ?_
  refine lv_if_eq (tgt := 26) hx hb dX7_faultOfTaking_21 (by decide) (fun hc => ?_) (fun hc => ?_)
  · have hF := oi_t hc hF
    refine lv_lload_n hx hb dX7_faultOfTaking_26 rfl (lv_at hl 2 rfl) ?_
    refine lv_lconst (v := (0 : Int64)) hx hb dX7_faultOfTaking_27 (by decide) ?_
    refine W.lcmp hx hb dX7_faultOfTaking_28 ?_
    refine lv_if_ge (tgt := 34) hx hb dX7_faultOfTaking_29 (by decide) (fun hc => ?_) (fun hc => ?_)
    · have hF := oi_t hc hF
      refine lv_aload_n hx hb dX7_faultOfTaking_34 rfl (lv_at hl 0 rfl) ?_
      refine lv_iload_n hx hb dX7_faultOfTaking_35 rfl (lv_at hl 1 rfl) ?_
      refine lv_lload_n hx hb dX7_faultOfTaking_36 rfl (lv_at hl 2 rfl) ?_
      obtain ⟨_, hrec, hF⟩ := ob hF
      obtain ⟨v37, hcl, hF⟩ := ob hF
      refine go_SI (r_V (rest := []) (As := [.int x2, .long x3]) C0 cb_X7_32 M hrec (tX7_hasCells l D cy ad A hcl) (pre_R C0 M) hl dX7_faultOfTaking_37 rfl (Nat.le_of_ble_eq_true rfl) ⟨rfl, rfl⟩ ⟨Nat.le_of_ble_eq_true rfl, Nat.le_of_ble_eq_true rfl⟩ ⟨Nat.le_of_ble_eq_true rfl, Nat.le_of_ble_eq_true rfl⟩ rfl) ?_
      refine lv_if_eq (tgt := 47) hx hb dX7_faultOfTaking_40 (by decide) (fun hc => ?_) (fun hc => ?_)
      · have hF := oi_t hc hF
        refine lv_iconst (v := (3 : Int32)) hx hb dX7_faultOfTaking_47 (by decide) ?_
        exact wX7_faultOfTaking_48 ad A C0 M hr hF (lv_sub hl [] rfl)
      · have hF := oi_f hc hF
        refine lv_iconst (v := (0 : Int32)) hx hb dX7_faultOfTaking_43 (by decide) ?_
        refine lv_goto (tgt := 48) hx hb dX7_faultOfTaking_44 (by decide) ?_
        exact wX7_faultOfTaking_48 ad A C0 M hr hF (lv_sub hl [] rfl)
    · have hF := oi_f hc hF
      refine lv_iconst (v := (4 : Int32)) hx hb dX7_faultOfTaking_32 (by decide) ?_
      obtain rfl := (Option.some.inj hF)
      exact rt_SI C0 hr dX7_faultOfTaking_33
  · have hF := oi_f hc hF
    refine lv_iconst (v := (1 : Int32)) hx hb dX7_faultOfTaking_24 (by decide) ?_
    obtain rfl := (Option.some.inj hF)
    exact rt_SI C0 hr dX7_faultOfTaking_25
set_option maxHeartbeats 4000000 in
set_option maxRecDepth 100000 in
theorem wX7_faultOfTaking_0 {p : Program} {l : Launch} {e : Env} {s : State} {m : MethodId} {args : Array Value} {below : List Frame} {meth : Method} {c : Code} {D : va_G} {cy : Nat → ClassId} (ad : Nat → Nat) (A : Nat → Prop) {S : MS} {r : Int32} {ls : Array Slot} {x0 : Nat} {x1 : Int32} {x2 : Int32} {x3 : Int64} (C0 : CX p s m args meth c RX7 cX7_faultOfTaking 5 D cy) (M : MW D cy ad A S s.heap) (hr : meth.sig.returnType = some .int) (hF : bX7_faultOfTaking_0 S x0 x1 x2 x3 = some r) (hl : lv_has ls 5 [(0, .ref (ad x0)), (1, .int x1), (2, .int x2), (3, .long x3)]) : W p l e rmX7_faultOfTaking s m args below meth c s.heap [] 0 0 (MQ below (QcS (some (.int r))) args s 0 0 (fun _ => False)) (F0 m 0 ls []) := by
  unfold bX7_faultOfTaking_0 at hF
  obtain ⟨hx, hb, -, hown, -, hts, -⟩ := id C0
  refine lv_aload_n hx hb dX7_faultOfTaking_0 rfl (lv_at hl 0 rfl) ?_
  obtain ⟨_, hrec, hF⟩ := ob hF
  obtain ⟨v1, hcl, hF⟩ := ob hF
  refine go_SI (r_V (rest := []) (As := []) C0 cb_X7_28 M hrec (tX7_isEmpty l D cy ad A hcl) (pre_R C0 M) hl dX7_faultOfTaking_1 rfl (Nat.le_of_ble_eq_true rfl) ⟨rfl, rfl⟩ ⟨Nat.le_of_ble_eq_true rfl, Nat.le_of_ble_eq_true rfl⟩ ⟨Nat.le_of_ble_eq_true rfl, Nat.le_of_ble_eq_true rfl⟩ rfl) ?_
  refine lv_if_ne (tgt := 17) hx hb dX7_faultOfTaking_4 (by decide) (fun hc => ?_) (fun hc => ?_)
  · have hF := oi_f hc hF
    exact wX7_faultOfTaking_17 ad A C0 M hr hF (lv_sub hl [0, 2, 3] rfl)
  · have hF := oi_t hc hF
    refine lv_aload_n hx hb dX7_faultOfTaking_7 rfl (lv_at hl 0 rfl) ?_
    obtain ⟨v8, hv, hF⟩ := ob hF
    refine k_getI C0 M hv fl_X7_11 dX7_faultOfTaking_8 ?_
    refine lv_iload_n hx hb dX7_faultOfTaking_11 rfl (lv_at hl 1 rfl) ?_
    refine lv_icmp_eq (tgt := 17) hx hb dX7_faultOfTaking_12 (by decide) (fun hc => ?_) (fun hc => ?_)
    · have hF := oi_t hc hF
      exact wX7_faultOfTaking_17 ad A C0 M hr hF (lv_sub hl [0, 2, 3] rfl)
    · have hF := oi_f hc hF
      refine lv_iconst (v := (2 : Int32)) hx hb dX7_faultOfTaking_15 (by decide) ?_
      obtain rfl := (Option.some.inj hF)
      exact rt_SI C0 hr dX7_faultOfTaking_16
set_option maxHeartbeats 4000000 in
set_option maxRecDepth 100000 in
theorem tX7_faultOfTaking (l : Launch) (D : va_G) (cy : Nat → ClassId) (ad : Nat → Nat) (A : Nat → Prop) {S : MS} {a0 : Nat} {a1 : Int32} {a2 : Int32} {a3 : Int64} {r : Int32} (h : fX7_faultOfTaking S a0 a1 a2 a3 = some r) : Met l yX7_faultOfTaking [Cond.code yX7_faultOfTaking cX7_faultOfTaking 5 (some .int)] rmX7_faultOfTaking (PcR D cy ad A S [.ref (ad a0), .int a1, .int a2, .long a3]) (QcS (some (.int r))) 0 0 (fun _ => False) := by
  refine met_R (by decide +kernel) cw_X7_faultOfTaking (Nat.le_of_ble_eq_true rfl) ?_
  intro p e s m args below meth c ls C0 M hr hl
  have hl : lv_has ls 5 [(0, .ref (ad a0)), (1, .int a1), (2, .int a2), (3, .long a3)] := hl
  exact wX7_faultOfTaking_0 ad A C0 M hr h hl
set_option maxHeartbeats 4000000 in
set_option maxRecDepth 100000 in
theorem wX9_cell_20 {p : Program} {l : Launch} {e : Env} {s : State} {m : MethodId} {args : Array Value} {below : List Frame} {meth : Method} {c : Code} {D : va_G} {cy : Nat → ClassId} (ad : Nat → Nat) (A : Nat → Prop) {S : MS} {S' : MS} {H : Heap} {locs : List Loc} {n0 : Nat} {r : Int64} {ls : Array Slot} (C0 : CX p s m args meth c RX9 cX9_cell 4 D cy) (M : ST D cy ad A s.heap (ZN n0 s.heap.size) S H locs) (hr : meth.sig.returnType = some .long) (hF : bX9_cell_20 S = some (r, S')) (hl : lv_has ls 4 []) : W p l e rmX9_cell s m args below meth c H locs 0 0 (MQ below (QcM D cy ad A n0 S' (some (.long r))) args s 0 0 A) (F0 m 20 ls []) := by
  unfold bX9_cell_20 at hF
  obtain ⟨hx, hb, -, hown, -, hts, -⟩ := id C0
  refine lv_ldc2 (v := (-9223372036854775808 : Int64)) hx hb hown (hts _ (uw_of 901 (by decide +kernel) rfl)) dX9_cell_20 ?_
  obtain ⟨rfl, rfl⟩ := Prod.mk.inj (Option.some.inj hF)
  exact rt_ML C0 M hr dX9_cell_23
set_option maxHeartbeats 4000000 in
set_option maxRecDepth 100000 in
theorem wX9_cell_0 {p : Program} {l : Launch} {e : Env} {s : State} {m : MethodId} {args : Array Value} {below : List Frame} {meth : Method} {c : Code} {D : va_G} {cy : Nat → ClassId} (ad : Nat → Nat) (A : Nat → Prop) {S : MS} {S' : MS} {H : Heap} {locs : List Loc} {n0 : Nat} {r : Int64} {ls : Array Slot} {x0 : Nat} {x1 : Int32} {x2 : Int32} {x3 : Int32} (C0 : CX p s m args meth c RX9 cX9_cell 4 D cy) (M : ST D cy ad A s.heap (ZN n0 s.heap.size) S H locs) (hr : meth.sig.returnType = some .long) (hF : bX9_cell_0 S x0 x1 x2 x3 = some (r, S')) (hl : lv_has ls 4 [(0, .ref (ad x0)), (1, .int x1), (2, .int x2), (3, .int x3)]) : W p l e rmX9_cell s m args below meth c H locs 0 0 (MQ below (QcM D cy ad A n0 S' (some (.long r))) args s 0 0 A) (F0 m 0 ls []) := by
  unfold bX9_cell_0 at hF
  obtain ⟨hx, hb, -, hown, -, hts, -⟩ := id C0
  refine lv_aload_n hx hb dX9_cell_0 rfl (lv_at hl 0 rfl) ?_
  refine lv_iconst (v := (0 : Int32)) hx hb dX9_cell_1 (by decide) ?_
  obtain ⟨S2, hv, hF⟩ := ob hF
  refine k_sI C0 M hv fl_X9_76 dX9_cell_2 (fun H locs M => ?_)
  refine lv_iload_n hx hb dX9_cell_5 rfl (lv_at hl 1 rfl) ?_
  obtain ⟨v6, hcl, hF⟩ := ob hF
  refine go_SI (r_S (rest := []) (As := [.int x1]) C0 cb_X9_150 (tX9_isSheet l D cy ad hcl) (pre_S C0) hl dX9_cell_6 rfl (Nat.le_of_ble_eq_true rfl) ⟨rfl, rfl⟩ ⟨Nat.le_of_ble_eq_true rfl, Nat.le_of_ble_eq_true rfl⟩ ⟨Nat.le_of_ble_eq_true rfl, Nat.le_of_ble_eq_true rfl⟩ rfl) ?_
  refine lv_if_eq (tgt := 20) hx hb dX9_cell_9 (by decide) (fun hc => ?_) (fun hc => ?_)
  · have hF := oi_t hc hF
    exact wX9_cell_20 ad A C0 M hr hF (lv_sub hl [] rfl)
  · have hF := oi_f hc hF
    refine lv_iload_n hx hb dX9_cell_12 rfl (lv_at hl 3 rfl) ?_
    refine lv_iconst (v := (3 : Int32)) hx hb dX9_cell_13 (by decide) ?_
    obtain ⟨v14, hcl, hF⟩ := ob hF
    refine go_SI (r_S (rest := []) (As := [.int x3, .int (3 : Int32)]) C0 cb_X9_79 (tX9_isBelow l D cy ad hcl) (pre_S C0) hl dX9_cell_14 rfl (Nat.le_of_ble_eq_true rfl) ⟨rfl, rfl⟩ ⟨Nat.le_of_ble_eq_true rfl, Nat.le_of_ble_eq_true rfl⟩ ⟨Nat.le_of_ble_eq_true rfl, Nat.le_of_ble_eq_true rfl⟩ rfl) ?_
    refine lv_if_ne (tgt := 24) hx hb dX9_cell_17 (by decide) (fun hc => ?_) (fun hc => ?_)
    · have hF := oi_f hc hF
      refine lv_aload_n hx hb dX9_cell_24 rfl (lv_at hl 0 rfl) ?_
      refine lv_aload_n hx hb dX9_cell_25 rfl (lv_at hl 0 rfl) ?_
      obtain ⟨v26, hv, hF⟩ := ob hF
      refine k_getP C0 M.1 hv fl_X9_67 dX9_cell_26 ?_
      refine lv_iload_n hx hb dX9_cell_29 rfl (lv_at hl 1 rfl) ?_
      obtain ⟨v30, hv, hF⟩ := ob hF
      refine k_ldP (ty := (.object "ChartRoom$Sheet")) 2 C0 M.1 (by decide) rfl rfl hv dX9_cell_30 ?_
      refine lv_iload_n hx hb dX9_cell_31 rfl (lv_at hl 3 rfl) ?_
      refine lv_iload_n hx hb dX9_cell_32 rfl (lv_at hl 2 rfl) ?_
      refine lv_lconst (v := (1 : Int64)) hx hb dX9_cell_33 (by decide) ?_
      obtain ⟨_, hrec, hF⟩ := ob hF
      obtain ⟨v34, hcl, hF⟩ := ob hF
      refine go_SI (r_V (rest := [.ref (ad x0)]) (As := [.int x3, .int x2, .long (1 : Int64)]) C0 cb_X9_155 M.1 hrec (tX7_faultOfTaking l D cy ad A hcl) (pre_R C0 M.1) hl dX9_cell_34 rfl (Nat.le_of_ble_eq_true rfl) ⟨rfl, rfl⟩ ⟨Nat.le_of_ble_eq_true rfl, Nat.le_of_ble_eq_true rfl⟩ ⟨Nat.le_of_ble_eq_true rfl, Nat.le_of_ble_eq_true rfl⟩ rfl) ?_
      obtain ⟨S37, hv, hF⟩ := ob hF
      refine k_sI C0 M hv fl_X9_76 dX9_cell_37 (fun H locs M => ?_)
      refine lv_aload_n hx hb dX9_cell_40 rfl (lv_at hl 0 rfl) ?_
      obtain ⟨v41, hv, hF⟩ := ob hF
      refine k_getI C0 M.1 hv fl_X9_76 dX9_cell_41 ?_
      refine lv_if_eq (tgt := 51) hx hb dX9_cell_44 (by decide) (fun hc => ?_) (fun hc => ?_)
      · have hF := oi_t hc hF
        refine lv_aload_n hx hb dX9_cell_51 rfl (lv_at hl 0 rfl) ?_
        obtain ⟨v52, hv, hF⟩ := ob hF
        refine k_getP C0 M.1 hv fl_X9_67 dX9_cell_52 ?_
        refine lv_iload_n hx hb dX9_cell_55 rfl (lv_at hl 1 rfl) ?_
        obtain ⟨v56, hv, hF⟩ := ob hF
        refine k_ldP (ty := (.object "ChartRoom$Sheet")) 2 C0 M.1 (by decide) rfl rfl hv dX9_cell_56 ?_
        obtain ⟨v57, hv, hF⟩ := ob hF
        refine k_getP C0 M.1 hv fl_X9_162 dX9_cell_57 ?_
        refine lv_iload_n hx hb dX9_cell_60 rfl (lv_at hl 2 rfl) ?_
        obtain ⟨v61, hv, hF⟩ := ob hF
        refine k_ld C0 M.1 hv dX9_cell_61 ?_
        refine lv_i2l (v := (v61.toInt64)) hx hb dX9_cell_62 rfl ?_
        obtain ⟨rfl, rfl⟩ := Prod.mk.inj (Option.some.inj hF)
        exact rt_ML C0 M hr dX9_cell_63
      · have hF := oi_f hc hF
        refine lv_ldc2 (v := (-9223372036854775808 : Int64)) hx hb hown (hts _ (uw_of 901 (by decide +kernel) rfl)) dX9_cell_47 ?_
        obtain ⟨rfl, rfl⟩ := Prod.mk.inj (Option.some.inj hF)
        exact rt_ML C0 M hr dX9_cell_50
    · have hF := oi_t hc hF
      exact wX9_cell_20 ad A C0 M hr hF (lv_sub hl [] rfl)
set_option maxHeartbeats 4000000 in
set_option maxRecDepth 100000 in
theorem tX9_cell (l : Launch) (D : va_G) (cy : Nat → ClassId) (ad : Nat → Nat) (A : Nat → Prop) {S S' : MS} {a0 : Nat} {a1 : Int32} {a2 : Int32} {a3 : Int32} {r : Int64} (h : fX9_cell S a0 a1 a2 a3 = some (r, S')) : Met l yX9_cell [Cond.code yX9_cell cX9_cell 4 (some .long)] rmX9_cell (PcR D cy ad A S [.ref (ad a0), .int a1, .int a2, .int a3]) (QcM D cy ad A (m_n S) S' (some (.long r))) 0 0 A := by
  refine met_M (by decide +kernel) cw_X9_cell (Nat.le_of_ble_eq_true rfl) ?_
  intro p e s m args below meth c ls C0 M hr hin hl
  have hl : lv_has ls 4 [(0, .ref (ad a0)), (1, .int a1), (2, .int a2), (3, .int a3)] := hl
  exact wX9_cell_0 ad A C0 M hr h hl
set_option maxHeartbeats 4000000 in
set_option maxRecDepth 100000 in
theorem wX9_copy_19 {p : Program} {l : Launch} {e : Env} {s : State} {m : MethodId} {args : Array Value} {below : List Frame} {meth : Method} {c : Code} {D : va_G} {cy : Nat → ClassId} (ad : Nat → Nat) (A : Nat → Prop) {S : MS} {S' : MS} {H : Heap} {locs : List Loc} {n0 : Nat} {r : Int32} {ls : Array Slot} (C0 : CX p s m args meth c RX9 cX9_copy 8 D cy) (M : ST D cy ad A s.heap (ZN n0 s.heap.size) S H locs) (hr : meth.sig.returnType = some .int) (hF : bX9_copy_19 S = some (r, S')) (hl : lv_has ls 8 []) : W p l e rmX9_copy s m args below meth c H locs 0 0 (MQ below (QcM D cy ad A n0 S' (some (.int r))) args s 0 0 A) (F0 m 19 ls []) := by
  unfold bX9_copy_19 at hF
  obtain ⟨hx, hb, -, hown, -, hts, -⟩ := id C0
  refine lv_iconst (v := (-1 : Int32)) hx hb dX9_copy_19 (by decide) ?_
  obtain ⟨rfl, rfl⟩ := Prod.mk.inj (Option.some.inj hF)
  exact rt_MI C0 M hr dX9_copy_20
set_option maxHeartbeats 4000000 in
set_option maxRecDepth 100000 in
theorem wX9_copy_53 {p : Program} {l : Launch} {e : Env} {s : State} {m : MethodId} {args : Array Value} {below : List Frame} {meth : Method} {c : Code} {D : va_G} {cy : Nat → ClassId} (ad : Nat → Nat) (A : Nat → Prop) {S : MS} {S' : MS} {H : Heap} {locs : List Loc} {n0 : Nat} {r : Int32} {ls : Array Slot} {x0 : Nat} (C0 : CX p s m args meth c RX9 cX9_copy 8 D cy) (M : ST D cy ad A s.heap (ZN n0 s.heap.size) S H locs) (hr : meth.sig.returnType = some .int) (hF : bX9_copy_53 S x0 = some (r, S')) (hl : lv_has ls 8 [(0, .ref (ad x0))]) : W p l e rmX9_copy s m args below meth c H locs 0 0 (MQ below (QcM D cy ad A n0 S' (some (.int r))) args s 0 0 A) (F0 m 53 ls []) := by
  unfold bX9_copy_53 at hF
  obtain ⟨hx, hb, -, hown, -, hts, -⟩ := id C0
  refine lv_aload_n hx hb dX9_copy_53 rfl (lv_at hl 0 rfl) ?_
  refine lv_iconst (v := (1 : Int32)) hx hb dX9_copy_54 (by decide) ?_
  obtain ⟨_, hrec, hF⟩ := ob hF
  obtain ⟨v55, S55, hcl, hF⟩ := ob2 hF
  refine go_MI (r_V (rest := []) (As := [.int (1 : Int32)]) C0 cb_X9_159 M.1 hrec (tX9_comeTo l D cy ad A hcl) (pre_R C0 M.1) hl dX9_copy_55 rfl (Nat.le_of_ble_eq_true rfl) ⟨rfl, rfl⟩ ⟨Nat.le_of_ble_eq_true rfl, Nat.le_of_ble_eq_true rfl⟩ ⟨Nat.le_of_ble_eq_true rfl, Nat.le_of_ble_eq_true rfl⟩ rfl) M (fun H locs M => ?_)
  obtain ⟨rfl, rfl⟩ := Prod.mk.inj (Option.some.inj hF)
  exact rt_MI C0 M hr dX9_copy_58
set_option maxHeartbeats 4000000 in
set_option maxRecDepth 100000 in
theorem wX9_copy_103 {p : Program} {l : Launch} {e : Env} {s : State} {m : MethodId} {args : Array Value} {below : List Frame} {meth : Method} {c : Code} {D : va_G} {cy : Nat → ClassId} (ad : Nat → Nat) (A : Nat → Prop) {S : MS} {S' : MS} {H : Heap} {locs : List Loc} {n0 : Nat} {r : Int32} {ls : Array Slot} {x0 : Nat} (C0 : CX p s m args meth c RX9 cX9_copy 8 D cy) (M : ST D cy ad A s.heap (ZN n0 s.heap.size) S H locs) (hr : meth.sig.returnType = some .int) (hF : bX9_copy_103 S x0 = some (r, S')) (hl : lv_has ls 8 [(0, .ref (ad x0))]) : W p l e rmX9_copy s m args below meth c H locs 0 0 (MQ below (QcM D cy ad A n0 S' (some (.int r))) args s 0 0 A) (F0 m 103 ls []) := by
  unfold bX9_copy_103 at hF
  obtain ⟨hx, hb, -, hown, -, hts, -⟩ := id C0
  refine lv_aload_n hx hb dX9_copy_103 rfl (lv_at hl 0 rfl) ?_
  refine lv_iconst (v := (3 : Int32)) hx hb dX9_copy_104 (by decide) ?_
  obtain ⟨_, hrec, hF⟩ := ob hF
  obtain ⟨v105, S105, hcl, hF⟩ := ob2 hF
  refine go_MI (r_V (rest := []) (As := [.int (3 : Int32)]) C0 cb_X9_159 M.1 hrec (tX9_comeTo l D cy ad A hcl) (pre_R C0 M.1) hl dX9_copy_105 rfl (Nat.le_of_ble_eq_true rfl) ⟨rfl, rfl⟩ ⟨Nat.le_of_ble_eq_true rfl, Nat.le_of_ble_eq_true rfl⟩ ⟨Nat.le_of_ble_eq_true rfl, Nat.le_of_ble_eq_true rfl⟩ rfl) M (fun H locs M => ?_)
  obtain ⟨rfl, rfl⟩ := Prod.mk.inj (Option.some.inj hF)
  exact rt_MI C0 M hr dX9_copy_108
set_option maxHeartbeats 4000000 in
set_option maxRecDepth 100000 in
theorem wX9_copy_0 {p : Program} {l : Launch} {e : Env} {s : State} {m : MethodId} {args : Array Value} {below : List Frame} {meth : Method} {c : Code} {D : va_G} {cy : Nat → ClassId} (ad : Nat → Nat) (A : Nat → Prop) {S : MS} {S' : MS} {H : Heap} {locs : List Loc} {n0 : Nat} {r : Int32} {ls : Array Slot} {x0 : Nat} {x1 : Int32} {x2 : Int32} {x3 : Int32} {x4 : Int32} {x5 : Int32} (C0 : CX p s m args meth c RX9 cX9_copy 8 D cy) (M : ST D cy ad A s.heap (ZN n0 s.heap.size) S H locs) (hr : meth.sig.returnType = some .int) (hF : bX9_copy_0 S x0 x1 x2 x3 x4 x5 = some (r, S')) (hl : lv_has ls 8 [(0, .ref (ad x0)), (1, .int x1), (2, .int x2), (3, .int x3), (4, .int x4), (5, .int x5)]) : W p l e rmX9_copy s m args below meth c H locs 0 0 (MQ below (QcM D cy ad A n0 S' (some (.int r))) args s 0 0 A) (F0 m 0 ls []) := by
  unfold bX9_copy_0 at hF
  obtain ⟨hx, hb, -, hown, -, hts, -⟩ := id C0
  refine lv_aload_n hx hb dX9_copy_0 rfl (lv_at hl 0 rfl) ?_
  refine lv_iconst (v := (0 : Int32)) hx hb dX9_copy_1 (by decide) ?_
  obtain ⟨S2, hv, hF⟩ := ob hF
  refine k_sI C0 M hv fl_X9_76 dX9_copy_2 (fun H locs M => ?_)
  refine lv_iload_n hx hb dX9_copy_5 rfl (lv_at hl 1 rfl) ?_
  obtain ⟨v6, hcl, hF⟩ := ob hF
  refine go_SI (r_S (rest := []) (As := [.int x1]) C0 cb_X9_150 (tX9_isSheet l D cy ad hcl) (pre_S C0) hl dX9_copy_6 rfl (Nat.le_of_ble_eq_true rfl) ⟨rfl, rfl⟩ ⟨Nat.le_of_ble_eq_true rfl, Nat.le_of_ble_eq_true rfl⟩ ⟨Nat.le_of_ble_eq_true rfl, Nat.le_of_ble_eq_true rfl⟩ rfl) ?_
  refine lv_if_eq (tgt := 19) hx hb dX9_copy_9 (by decide) (fun hc => ?_) (fun hc => ?_)
  · have hF := oi_t hc hF
    exact wX9_copy_19 ad A C0 M hr hF (lv_sub hl [] rfl)
  · have hF := oi_f hc hF
    refine lv_iload_n hx hb dX9_copy_12 rfl (lv_at hl 3 rfl) ?_
    obtain ⟨v13, hcl, hF⟩ := ob hF
    refine go_SI (r_S (rest := []) (As := [.int x3]) C0 cb_X9_150 (tX9_isSheet l D cy ad hcl) (pre_S C0) hl dX9_copy_13 rfl (Nat.le_of_ble_eq_true rfl) ⟨rfl, rfl⟩ ⟨Nat.le_of_ble_eq_true rfl, Nat.le_of_ble_eq_true rfl⟩ ⟨Nat.le_of_ble_eq_true rfl, Nat.le_of_ble_eq_true rfl⟩ rfl) ?_
    refine lv_if_ne (tgt := 21) hx hb dX9_copy_16 (by decide) (fun hc => ?_) (fun hc => ?_)
    · have hF := oi_f hc hF
      refine lv_aload_n hx hb dX9_copy_21 rfl (lv_at hl 0 rfl) ?_
      obtain ⟨v22, hv, hF⟩ := ob hF
      refine k_getP C0 M.1 hv fl_X9_67 dX9_copy_22 ?_
      refine lv_iload_n hx hb dX9_copy_25 rfl (lv_at hl 1 rfl) ?_
      obtain ⟨v26, hv, hF⟩ := ob hF
      refine k_ldP (ty := (.object "ChartRoom$Sheet")) 2 C0 M.1 (by decide) rfl rfl hv dX9_copy_26 ?_
      refine lv_astore (lv' := [(6, .ref (ad v26)), (0, .ref (ad x0)), (1, .int x1), (2, .int x2), (3, .int x3), (4, .int x4), (5, .int x5)]) hx hb dX9_copy_27 hl (by decide) rfl (fun ls hl => ?_)
      refine lv_aload_n hx hb dX9_copy_29 rfl (lv_at hl 1 rfl) ?_
      obtain ⟨v30, hv, hF⟩ := ob hF
      refine k_getP C0 M.1 hv fl_X9_67 dX9_copy_30 ?_
      refine lv_iload_n hx hb dX9_copy_33 rfl (lv_at hl 4 rfl) ?_
      obtain ⟨v34, hv, hF⟩ := ob hF
      refine k_ldP (ty := (.object "ChartRoom$Sheet")) 2 C0 M.1 (by decide) rfl rfl hv dX9_copy_34 ?_
      refine lv_astore (lv' := [(7, .ref (ad v34)), (6, .ref (ad v26)), (0, .ref (ad x0)), (1, .int x1), (2, .int x2), (3, .int x3), (4, .int x4), (5, .int x5)]) hx hb dX9_copy_35 hl (by decide) rfl (fun ls hl => ?_)
      refine lv_aload hx hb dX9_copy_37 (lv_at hl 1 rfl) ?_
      obtain ⟨_, hrec, hF⟩ := ob hF
      obtain ⟨v39, hcl, hF⟩ := ob hF
      refine go_SI (r_V (rest := []) (As := []) C0 cb_X9_341 M.1 hrec (tX7_isEmpty l D cy ad A hcl) (pre_R C0 M.1) hl dX9_copy_39 rfl (Nat.le_of_ble_eq_true rfl) ⟨rfl, rfl⟩ ⟨Nat.le_of_ble_eq_true rfl, Nat.le_of_ble_eq_true rfl⟩ ⟨Nat.le_of_ble_eq_true rfl, Nat.le_of_ble_eq_true rfl⟩ rfl) ?_
      refine lv_if_ne (tgt := 53) hx hb dX9_copy_42 (by decide) (fun hc => ?_) (fun hc => ?_)
      · have hF := oi_f hc hF
        exact wX9_copy_53 ad A C0 M hr hF (lv_sub hl [2] rfl)
      · have hF := oi_t hc hF
        refine lv_aload hx hb dX9_copy_45 (lv_at hl 0 rfl) ?_
        obtain ⟨_, hrec, hF⟩ := ob hF
        obtain ⟨v47, hcl, hF⟩ := ob hF
        refine go_SI (r_V (rest := []) (As := []) C0 cb_X9_341 M.1 hrec (tX7_isEmpty l D cy ad A hcl) (pre_R C0 M.1) hl dX9_copy_47 rfl (Nat.le_of_ble_eq_true rfl) ⟨rfl, rfl⟩ ⟨Nat.le_of_ble_eq_true rfl, Nat.le_of_ble_eq_true rfl⟩ ⟨Nat.le_of_ble_eq_true rfl, Nat.le_of_ble_eq_true rfl⟩ rfl) ?_
        refine lv_if_eq (tgt := 59) hx hb dX9_copy_50 (by decide) (fun hc => ?_) (fun hc => ?_)
        · have hF := oi_t hc hF
          refine lv_aload hx hb dX9_copy_59 (lv_at hl 1 rfl) ?_
          obtain ⟨v61, hv, hF⟩ := ob hF
          refine k_getI C0 M.1 hv fl_X9_348 dX9_copy_61 ?_
          refine lv_aload hx hb dX9_copy_64 (lv_at hl 0 rfl) ?_
          obtain ⟨v66, hv, hF⟩ := ob hF
          refine k_getI C0 M.1 hv fl_X9_348 dX9_copy_66 ?_
          refine lv_icmp_eq (tgt := 78) hx hb dX9_copy_69 (by decide) (fun hc => ?_) (fun hc => ?_)
          · have hF := oi_t hc hF
            refine lv_aload hx hb dX9_copy_78 (lv_at hl 1 rfl) ?_
            refine lv_iload_n hx hb dX9_copy_80 rfl (lv_at hl 4 rfl) ?_
            refine lv_iload hx hb dX9_copy_81 (lv_at hl 7 rfl) ?_
            refine lv_i2l (v := (x5.toInt64)) hx hb dX9_copy_83 rfl ?_
            obtain ⟨_, hrec, hF⟩ := ob hF
            obtain ⟨v84, hcl, hF⟩ := ob hF
            refine go_SI (r_V (rest := []) (As := [.int x2, .long (x5.toInt64)]) C0 cb_X9_354 M.1 hrec (tX7_hasCells l D cy ad A hcl) (pre_R C0 M.1) hl dX9_copy_84 rfl (Nat.le_of_ble_eq_true rfl) ⟨rfl, rfl⟩ ⟨Nat.le_of_ble_eq_true rfl, Nat.le_of_ble_eq_true rfl⟩ ⟨Nat.le_of_ble_eq_true rfl, Nat.le_of_ble_eq_true rfl⟩ rfl) ?_
            refine lv_if_eq (tgt := 103) hx hb dX9_copy_87 (by decide) (fun hc => ?_) (fun hc => ?_)
            · have hF := oi_t hc hF
              exact wX9_copy_103 ad A C0 M hr hF (lv_sub hl [2] rfl)
            · have hF := oi_f hc hF
              refine lv_aload hx hb dX9_copy_90 (lv_at hl 0 rfl) ?_
              refine lv_iload hx hb dX9_copy_92 (lv_at hl 6 rfl) ?_
              refine lv_iload hx hb dX9_copy_94 (lv_at hl 7 rfl) ?_
              refine lv_i2l (v := (x5.toInt64)) hx hb dX9_copy_96 rfl ?_
              obtain ⟨_, hrec, hF⟩ := ob hF
              obtain ⟨v97, hcl, hF⟩ := ob hF
              refine go_SI (r_V (rest := []) (As := [.int x4, .long (x5.toInt64)]) C0 cb_X9_354 M.1 hrec (tX7_hasCells l D cy ad A hcl) (pre_R C0 M.1) hl dX9_copy_97 rfl (Nat.le_of_ble_eq_true rfl) ⟨rfl, rfl⟩ ⟨Nat.le_of_ble_eq_true rfl, Nat.le_of_ble_eq_true rfl⟩ ⟨Nat.le_of_ble_eq_true rfl, Nat.le_of_ble_eq_true rfl⟩ rfl) ?_
              refine lv_if_ne (tgt := 109) hx hb dX9_copy_100 (by decide) (fun hc => ?_) (fun hc => ?_)
              · have hF := oi_f hc hF
                refine lv_aload hx hb dX9_copy_109 (lv_at hl 1 rfl) ?_
                obtain ⟨v111, hv, hF⟩ := ob hF
                refine k_getP C0 M.1 hv fl_X9_162 dX9_copy_111 ?_
                refine lv_iload_n hx hb dX9_copy_114 rfl (lv_at hl 4 rfl) ?_
                refine lv_aload hx hb dX9_copy_115 (lv_at hl 0 rfl) ?_
                obtain ⟨v117, hv, hF⟩ := ob hF
                refine k_getP C0 M.1 hv fl_X9_162 dX9_copy_117 ?_
                refine lv_iload hx hb dX9_copy_120 (lv_at hl 6 rfl) ?_
                refine lv_iload hx hb dX9_copy_122 (lv_at hl 7 rfl) ?_
                obtain ⟨S124, hv, hF⟩ := ob hF
                refine k_cpy C0 M hl (uw_of 896 (by decide +kernel) rfl) (uw_of 431 (by decide +kernel) rfl) (uw_of 430 (by decide +kernel) rfl) ini_java_lang_System hv (Nat.le_of_ble_eq_true rfl) (Nat.le_of_ble_eq_true rfl) dX9_copy_124 (fun H locs M => ?_)
                refine lv_iload hx hb dX9_copy_127 (lv_at hl 7 rfl) ?_
                obtain ⟨rfl, rfl⟩ := Prod.mk.inj (Option.some.inj hF)
                exact rt_MI C0 M hr dX9_copy_129
              · have hF := oi_t hc hF
                exact wX9_copy_103 ad A C0 M hr hF (lv_sub hl [2] rfl)
          · have hF := oi_f hc hF
            refine lv_aload_n hx hb dX9_copy_72 rfl (lv_at hl 2 rfl) ?_
            refine lv_iconst (v := (2 : Int32)) hx hb dX9_copy_73 (by decide) ?_
            obtain ⟨_, hrec, hF⟩ := ob hF
            obtain ⟨v74, S74, hcl, hF⟩ := ob2 hF
            refine go_MI (r_V (rest := []) (As := [.int (2 : Int32)]) C0 cb_X9_159 M.1 hrec (tX9_comeTo l D cy ad A hcl) (pre_R C0 M.1) hl dX9_copy_74 rfl (Nat.le_of_ble_eq_true rfl) ⟨rfl, rfl⟩ ⟨Nat.le_of_ble_eq_true rfl, Nat.le_of_ble_eq_true rfl⟩ ⟨Nat.le_of_ble_eq_true rfl, Nat.le_of_ble_eq_true rfl⟩ rfl) M (fun H locs M => ?_)
            obtain ⟨rfl, rfl⟩ := Prod.mk.inj (Option.some.inj hF)
            exact rt_MI C0 M hr dX9_copy_77
        · have hF := oi_f hc hF
          exact wX9_copy_53 ad A C0 M hr hF (lv_sub hl [2] rfl)
    · have hF := oi_t hc hF
      exact wX9_copy_19 ad A C0 M hr hF (lv_sub hl [] rfl)
set_option maxHeartbeats 4000000 in
set_option maxRecDepth 100000 in
theorem tX9_copy (l : Launch) (D : va_G) (cy : Nat → ClassId) (ad : Nat → Nat) (A : Nat → Prop) {S S' : MS} {a0 : Nat} {a1 : Int32} {a2 : Int32} {a3 : Int32} {a4 : Int32} {a5 : Int32} {r : Int32} (h : fX9_copy S a0 a1 a2 a3 a4 a5 = some (r, S')) : Met l yX9_copy [Cond.code yX9_copy cX9_copy 8 (some .int)] rmX9_copy (PcR D cy ad A S [.ref (ad a0), .int a1, .int a2, .int a3, .int a4, .int a5]) (QcM D cy ad A (m_n S) S' (some (.int r))) 0 0 A := by
  refine met_M (by decide +kernel) cw_X9_copy (Nat.le_of_ble_eq_true rfl) ?_
  intro p e s m args below meth c ls C0 M hr hin hl
  have hl : lv_has ls 8 [(0, .ref (ad a0)), (1, .int a1), (2, .int a2), (3, .int a3), (4, .int a4), (5, .int a5)] := hl
  exact wX9_copy_0 ad A C0 M hr h hl
set_option maxHeartbeats 4000000 in
set_option maxRecDepth 100000 in
theorem wX9_countKept_0 {p : Program} {l : Launch} {e : Env} {s : State} {m : MethodId} {args : Array Value} {below : List Frame} {meth : Method} {c : Code} {D : va_G} {cy : Nat → ClassId} (ad : Nat → Nat) (A : Nat → Prop) {S : MS} {r : Int32} {out : ((Nat × Int32 × Int32) ⊕ Int32)} {ls : Array Slot} {x0 : Nat} (C0 : CX p s m args meth c RX9 cX9_countKept 3 D cy) (M : MW D cy ad A S s.heap) (hr : meth.sig.returnType = some .int) (hF : bX9_countKept_0 S x0 = some out) (hl : lv_has ls 3 [(0, .ref (ad x0))]) (Kr : ∀ r9, out = .inr r9 → r9 = r) (Kh0 : ∀ (y0 : Nat) (y1 : Int32) (y2 : Int32), out = .inl (y0, y1, y2) → ∀ (ls1 : Array Slot), lv_has ls1 3 [(0, .ref (ad y0)), (1, .int y1), (2, .int y2)] → W p l e rmX9_countKept s m args below meth c s.heap [] 0 0 (MQ below (QcS (some (.int r))) args s 0 0 (fun _ => False)) (F0 m 4 ls1 [])) : W p l e rmX9_countKept s m args below meth c s.heap [] 0 0 (MQ below (QcS (some (.int r))) args s 0 0 (fun _ => False)) (F0 m 0 ls []) := by
  unfold bX9_countKept_0 at hF
  obtain ⟨hx, hb, -, hown, -, hts, -⟩ := id C0
  refine lv_iconst (v := (0 : Int32)) hx hb dX9_countKept_0 (by decide) ?_
  refine lv_istore_n (lv' := [(1, .int (0 : Int32)), (0, .ref (ad x0))]) hx hb dX9_countKept_1 rfl hl (by decide) rfl (fun ls hl => ?_)
  refine lv_iconst (v := (0 : Int32)) hx hb dX9_countKept_2 (by decide) ?_
  refine lv_istore_n (lv' := [(2, .int (0 : Int32)), (1, .int (0 : Int32)), (0, .ref (ad x0))]) hx hb dX9_countKept_3 rfl hl (by decide) rfl (fun ls hl => ?_)
  exact Kh0 _ _ _ (Option.some.inj hF).symm _ (lv_sub hl [2, 1, 0] rfl)
set_option maxHeartbeats 4000000 in
set_option maxRecDepth 100000 in
theorem wX9_countKept_21 {p : Program} {l : Launch} {e : Env} {s : State} {m : MethodId} {args : Array Value} {below : List Frame} {meth : Method} {c : Code} {D : va_G} {cy : Nat → ClassId} (ad : Nat → Nat) (A : Nat → Prop) {S : MS} {r : Int32} {out : ((Nat × Int32 × Int32) ⊕ Int32)} {ls : Array Slot} {x0 : Nat} {x1 : Int32} {x2 : Int32} (C0 : CX p s m args meth c RX9 cX9_countKept 3 D cy) (M : MW D cy ad A S s.heap) (hr : meth.sig.returnType = some .int) (hF : bX9_countKept_21 S x0 x1 x2 = some out) (hl : lv_has ls 3 [(0, .ref (ad x0)), (1, .int x1), (2, .int x2)]) (Kr : ∀ r9, out = .inr r9 → r9 = r) (Kh0 : ∀ (y0 : Nat) (y1 : Int32) (y2 : Int32), out = .inl (y0, y1, y2) → ∀ (ls1 : Array Slot), lv_has ls1 3 [(0, .ref (ad y0)), (1, .int y1), (2, .int y2)] → W p l e rmX9_countKept s m args below meth c s.heap [] 0 0 (MQ below (QcS (some (.int r))) args s 0 0 (fun _ => False)) (F0 m 4 ls1 [])) : W p l e rmX9_countKept s m args below meth c s.heap [] 0 0 (MQ below (QcS (some (.int r))) args s 0 0 (fun _ => False)) (F0 m 21 ls []) := by
  unfold bX9_countKept_21 at hF
  obtain ⟨hx, hb, -, hown, -, hts, -⟩ := id C0
  obtain ⟨v21, hv, hF⟩ := ob hF
  refine lv_iinc (v := v21) (lv' := [(2, .int v21), (0, .ref (ad x0)), (1, .int x1)]) hx hb dX9_countKept_21 hl (k := 2) rfl (by rw [← vtI hv]; rfl) (by decide) rfl (fun ls hl => ?_)
  refine lv_goto (tgt := 4) hx hb dX9_countKept_24 (by decide) ?_
  exact Kh0 _ _ _ (Option.some.inj hF).symm _ (lv_sub hl [1, 2, 0] rfl)
set_option maxHeartbeats 4000000 in
set_option maxRecDepth 100000 in
theorem wX9_countKept_4 {p : Program} {l : Launch} {e : Env} {s : State} {m : MethodId} {args : Array Value} {below : List Frame} {meth : Method} {c : Code} {D : va_G} {cy : Nat → ClassId} (ad : Nat → Nat) (A : Nat → Prop) {S : MS} {r : Int32} {out : ((Nat × Int32 × Int32) ⊕ Int32)} {ls : Array Slot} {x0 : Nat} {x1 : Int32} {x2 : Int32} (C0 : CX p s m args meth c RX9 cX9_countKept 3 D cy) (M : MW D cy ad A S s.heap) (hr : meth.sig.returnType = some .int) (hF : bX9_countKept_4 S x0 x1 x2 = some out) (hl : lv_has ls 3 [(0, .ref (ad x0)), (1, .int x1), (2, .int x2)]) (Kr : ∀ r9, out = .inr r9 → r9 = r) (Kh0 : ∀ (y0 : Nat) (y1 : Int32) (y2 : Int32), out = .inl (y0, y1, y2) → ∀ (ls1 : Array Slot), lv_has ls1 3 [(0, .ref (ad y0)), (1, .int y1), (2, .int y2)] → W p l e rmX9_countKept s m args below meth c s.heap [] 0 0 (MQ below (QcS (some (.int r))) args s 0 0 (fun _ => False)) (F0 m 4 ls1 [])) : W p l e rmX9_countKept s m args below meth c s.heap [] 0 0 (MQ below (QcS (some (.int r))) args s 0 0 (fun _ => False)) (F0 m 4 ls []) := by
  unfold bX9_countKept_4 at hF
  obtain ⟨hx, hb, -, hown, -, hts, -⟩ := id C0
  refine lv_iload_n hx hb dX9_countKept_4 rfl (lv_at hl 2 rfl) ?_
  refine lv_iconst (v := (4 : Int32)) hx hb dX9_countKept_5 (by decide) ?_
  refine lv_icmp_ge (tgt := 27) hx hb dX9_countKept_6 (by decide) (fun hc => ?_) (fun hc => ?_)
  · have hF := oi_t hc hF
    refine lv_iload_n hx hb dX9_countKept_27 rfl (lv_at hl 1 rfl) ?_
    obtain rfl := (Kr _ (Option.some.inj hF).symm)
    exact rt_SI C0 hr dX9_countKept_28
  · have hF := oi_f hc hF
    refine lv_aload_n hx hb dX9_countKept_9 rfl (lv_at hl 0 rfl) ?_
    obtain ⟨v10, hv, hF⟩ := ob hF
    refine k_getP C0 M hv fl_X9_58 dX9_countKept_10 ?_
    refine lv_iload_n hx hb dX9_countKept_13 rfl (lv_at hl 2 rfl) ?_
    obtain ⟨v14, hv, hF⟩ := ob hF
    refine k_ldZ C0 M hv dX9_countKept_14 ?_
    refine lv_if_eq (tgt := 21) hx hb dX9_countKept_15 (by decide) (fun hc => ?_) (fun hc => ?_)
    · have hF := oi_t hc hF
      exact wX9_countKept_21 ad A C0 M hr hF (lv_sub hl [0, 1, 2] rfl) Kr Kh0
    · have hF := oi_f hc hF
      obtain ⟨v18, hv, hF⟩ := ob hF
      refine lv_iinc (v := v18) (lv' := [(1, .int v18), (0, .ref (ad x0)), (2, .int x2)]) hx hb dX9_countKept_18 hl (k := 1) rfl (by rw [← vtI hv]; rfl) (by decide) rfl (fun ls hl => ?_)
      exact wX9_countKept_21 ad A C0 M hr hF (lv_sub hl [1, 0, 2] rfl) Kr Kh0
set_option maxHeartbeats 4000000 in
set_option maxRecDepth 100000 in
theorem tX9_countKept (l : Launch) (D : va_G) (cy : Nat → ClassId) (ad : Nat → Nat) (A : Nat → Prop) {S : MS} {a0 : Nat} {r : Int32} (h : fX9_countKept S a0 = some r) : Met l yX9_countKept [Cond.code yX9_countKept cX9_countKept 3 (some .int)] rmX9_countKept (PcR D cy ad A S [.ref (ad a0)]) (QcS (some (.int r))) 0 0 (fun _ => False) := by
  refine met_R (by decide +kernel) cw_X9_countKept (Nat.le_of_ble_eq_true rfl) ?_
  intro p e s m args below meth c ls C0 M hr hl
  have hl : lv_has ls 3 [(0, .ref (ad a0))] := hl
  have key := lim_walk (step := sX9_countKept S) (fun (q : (Nat × Int32 × Int32)) (r9 : Int32) => ∀ (r : Int32), r9 = r → ((∀ (y0 : Nat) (y1 : Int32) (y2 : Int32), q = (y0, y1, y2) → ∀ (ls1 : Array Slot), lv_has ls1 3 [(0, .ref (ad y0)), (1, .int y1), (2, .int y2)] → W p l e rmX9_countKept s m args below meth c s.heap [] 0 0 (MQ below (QcS (some (.int r))) args s 0 0 (fun _ => False)) (F0 m 4 ls1 [])))) ?_
  · unfold fX9_countKept at h
    cases hs0 : bX9_countKept_0 S a0 with
    | none => rw [hs0] at h; cases h
    | some out =>
      rw [hs0] at h
      refine wX9_countKept_0 ad A C0 M hr hs0 hl (fun r9 hr9 => ?_) ?_
      · subst hr9; exact Option.some.inj h
      · intro y0 y1 y2 hq; subst hq; exact (key _ _ h _ rfl) _ _ _ rfl
  · intro q r9 out hst hre hin9
    intro r er; subst er
    refine ?_
    · intro y0 y1 y2 hq ls1 hl
      subst hq
      exact wX9_countKept_4 ad A C0 M hr hst hl hre (fun k0 k1 k2 hk => (hin9 _ hk _ rfl) _ _ _ rfl)
set_option maxHeartbeats 4000000 in
set_option maxRecDepth 100000 in
theorem wX9_isWire_0 {p : Program} {l : Launch} {e : Env} {s : State} {m : MethodId} {args : Array Value} {below : List Frame} {meth : Method} {c : Code} {D : va_G} {cy : Nat → ClassId} (ad : Nat → Nat) (A : Nat → Prop) {S : MS} {r : Int32} {ls : Array Slot} {x0 : Nat} {x1 : Int32} (C0 : CX p s m args meth c RX9 cX9_isWire 2 D cy) (M : MW D cy ad A S s.heap) (hr : meth.sig.returnType = some .boolean) (hF : bX9_isWire_0 S x0 x1 = some r) (hl : lv_has ls 2 [(0, .ref (ad x0)), (1, .int x1)]) : W p l e rmX9_isWire s m args below meth c s.heap [] 0 0 (MQ below (QcS (some (.int r))) args s 0 0 (fun _ => False)) (F0 m 0 ls []) := by
  unfold bX9_isWire_0 at hF
  obtain ⟨hx, hb, -, hown, -, hts, -⟩ := id C0
  refine lv_iload_n hx hb dX9_isWire_0 rfl (lv_at hl 1 rfl) ?_
  refine lv_aload_n hx hb dX9_isWire_1 rfl (lv_at hl 0 rfl) ?_
  obtain ⟨v2, hv, hF⟩ := ob hF
  refine k_getP C0 M hv fl_X9_12 dX9_isWire_2 ?_
  obtain ⟨v5, hv, hF⟩ := ob hF
  refine k_getP C0 M hv fl_X9_165 dX9_isWire_5 ?_
  obtain ⟨_, hrec, hF⟩ := ob hF
  obtain ⟨v8, hcl, hF⟩ := ob hF
  refine go_SI (r_V (rest := [.int x1]) (As := []) C0 cb_X9_93 M hrec (tJx4a65c_size_8abf5 l D cy ad A hcl) (pre_R C0 M) hl dX9_isWire_8 rfl (Nat.le_of_ble_eq_true rfl) ⟨rfl, rfl⟩ ⟨Nat.le_of_ble_eq_true rfl, Nat.le_of_ble_eq_true rfl⟩ ⟨Nat.le_of_ble_eq_true rfl, Nat.le_of_ble_eq_true rfl⟩ rfl) ?_
  obtain ⟨v11, hcl, hF⟩ := ob hF
  refine go_SI (r_S (rest := []) (As := [.int x1, .int v8]) C0 cb_X9_79 (tX9_isBelow l D cy ad hcl) (pre_S C0) hl dX9_isWire_11 rfl (Nat.le_of_ble_eq_true rfl) ⟨rfl, rfl⟩ ⟨Nat.le_of_ble_eq_true rfl, Nat.le_of_ble_eq_true rfl⟩ ⟨Nat.le_of_ble_eq_true rfl, Nat.le_of_ble_eq_true rfl⟩ rfl) ?_
  obtain ⟨z14, hz, hF⟩ := ob hF
  have hz2 := (o_if hz).2
  refine vtopi hz2 ?_
  rw [hz2] at hz
  obtain rfl := (Option.some.inj hF)
  exact rt_SZ C0 hr hz dX9_isWire_14
set_option maxHeartbeats 4000000 in
set_option maxRecDepth 100000 in
theorem tX9_isWire (l : Launch) (D : va_G) (cy : Nat → ClassId) (ad : Nat → Nat) (A : Nat → Prop) {S : MS} {a0 : Nat} {a1 : Int32} {r : Int32} (h : fX9_isWire S a0 a1 = some r) : Met l yX9_isWire [Cond.code yX9_isWire cX9_isWire 2 (some .boolean)] rmX9_isWire (PcR D cy ad A S [.ref (ad a0), .int a1]) (QcS (some (.int r))) 0 0 (fun _ => False) := by
  refine met_R (by decide +kernel) cw_X9_isWire (Nat.le_of_ble_eq_true rfl) ?_
  intro p e s m args below meth c ls C0 M hr hl
  have hl : lv_has ls 2 [(0, .ref (ad a0)), (1, .int a1)] := hl
  exact wX9_isWire_0 ad A C0 M hr h hl
set_option maxHeartbeats 4000000 in
set_option maxRecDepth 100000 in
theorem wX9_digit_26 {p : Program} {l : Launch} {e : Env} {s : State} {m : MethodId} {args : Array Value} {below : List Frame} {meth : Method} {c : Code} {D : va_G} {cy : Nat → ClassId} (ad : Nat → Nat) (A : Nat → Prop) {S : MS} {r : Int32} {ls : Array Slot} (C0 : CX p s m args meth c RX9 cX9_digit 5 D cy) (M : MW D cy ad A S s.heap) (hr : meth.sig.returnType = some .int) (hF : bX9_digit_26 S = some r) (hl : lv_has ls 5 []) : W p l e rmX9_digit s m args below meth c s.heap [] 0 0 (MQ below (QcS (some (.int r))) args s 0 0 (fun _ => False)) (F0 m 26 ls []) := by
  unfold bX9_digit_26 at hF
  obtain ⟨hx, hb, -, hown, -, hts, -⟩ := id C0
  refine lv_bipush (v := (-2 : Int32)) hx hb dX9_digit_26 (by decide) ?_
  obtain rfl := (Option.some.inj hF)
  exact rt_SI C0 hr dX9_digit_28
set_option maxHeartbeats 4000000 in
set_option maxRecDepth 100000 in
theorem wX9_digit_66 {p : Program} {l : Launch} {e : Env} {s : State} {m : MethodId} {args : Array Value} {below : List Frame} {meth : Method} {c : Code} {D : va_G} {cy : Nat → ClassId} (ad : Nat → Nat) (A : Nat → Prop) {S : MS} {r : Int32} {ls : Array Slot} {z0 : Int32} (C0 : CX p s m args meth c RX9 cX9_digit 5 D cy) (M : MW D cy ad A S s.heap) (hr : meth.sig.returnType = some .int) (hF : bX9_digit_66 S z0 = some r) (hl : lv_has ls 5 []) : W p l e rmX9_digit s m args below meth c s.heap [] 0 0 (MQ below (QcS (some (.int r))) args s 0 0 (fun _ => False)) (F0 m 66 ls [.int z0]) := by
  unfold bX9_digit_66 at hF
  obtain ⟨hx, hb, -, hown, -, hts, -⟩ := id C0
  obtain rfl := (Option.some.inj hF)
  exact rt_SI C0 hr dX9_digit_66
set_option maxHeartbeats 4000000 in
set_option maxRecDepth 100000 in
theorem wX9_digit_0 {p : Program} {l : Launch} {e : Env} {s : State} {m : MethodId} {args : Array Value} {below : List Frame} {meth : Method} {c : Code} {D : va_G} {cy : Nat → ClassId} (ad : Nat → Nat) (A : Nat → Prop) {S : MS} {r : Int32} {ls : Array Slot} {x0 : Nat} {x1 : Int32} {x2 : Int32} {x3 : Int32} (C0 : CX p s m args meth c RX9 cX9_digit 5 D cy) (M : MW D cy ad A S s.heap) (hr : meth.sig.returnType = some .int) (hF : bX9_digit_0 S x0 x1 x2 x3 = some r) (hl : lv_has ls 5 [(0, .ref (ad x0)), (1, .int x1), (2, .int x2), (3, .int x3)]) : W p l e rmX9_digit s m args below meth c s.heap [] 0 0 (MQ below (QcS (some (.int r))) args s 0 0 (fun _ => False)) (F0 m 0 ls []) := by
  unfold bX9_digit_0 at hF
  obtain ⟨hx, hb, -, hown, -, hts, -⟩ := id C0
  refine lv_aload_n hx hb dX9_digit_0 rfl (lv_at hl 0 rfl) ?_
  refine lv_iload_n hx hb dX9_digit_1 rfl (lv_at hl 1 rfl) ?_
  obtain ⟨_, hrec, hF⟩ := ob hF
  obtain ⟨v2, hcl, hF⟩ := ob hF
  refine go_SI (r_V (rest := []) (As := [.int x1]) C0 cb_X9_179 M hrec (tX9_isWire l D cy ad A hcl) (pre_R C0 M) hl dX9_digit_2 rfl (Nat.le_of_ble_eq_true rfl) ⟨rfl, rfl⟩ ⟨Nat.le_of_ble_eq_true rfl, Nat.le_of_ble_eq_true rfl⟩ ⟨Nat.le_of_ble_eq_true rfl, Nat.le_of_ble_eq_true rfl⟩ rfl) ?_
  refine lv_if_ne (tgt := 10) hx hb dX9_digit_5 (by decide) (fun hc => ?_) (fun hc => ?_)
  · have hF := oi_f hc hF
    refine lv_iload_n hx hb dX9_digit_10 rfl (lv_at hl 2 rfl) ?_
    refine lv_iconst (v := (3 : Int32)) hx hb dX9_digit_11 (by decide) ?_
    obtain ⟨v12, hcl, hF⟩ := ob hF
    refine go_SI (r_S (rest := []) (As := [.int x2, .int (3 : Int32)]) C0 cb_X9_79 (tX9_isBelow l D cy ad hcl) (pre_S C0) hl dX9_digit_12 rfl (Nat.le_of_ble_eq_true rfl) ⟨rfl, rfl⟩ ⟨Nat.le_of_ble_eq_true rfl, Nat.le_of_ble_eq_true rfl⟩ ⟨Nat.le_of_ble_eq_true rfl, Nat.le_of_ble_eq_true rfl⟩ rfl) ?_
    refine lv_if_eq (tgt := 26) hx hb dX9_digit_15 (by decide) (fun hc => ?_) (fun hc => ?_)
    · have hF := oi_t hc hF
      exact wX9_digit_26 ad A C0 M hr hF (lv_sub hl [] rfl)
    · have hF := oi_f hc hF
      refine lv_iload_n hx hb dX9_digit_18 rfl (lv_at hl 3 rfl) ?_
      refine lv_iconst (v := (5 : Int32)) hx hb dX9_digit_19 (by decide) ?_
      obtain ⟨v20, hcl, hF⟩ := ob hF
      refine go_SI (r_S (rest := []) (As := [.int x3, .int (5 : Int32)]) C0 cb_X9_79 (tX9_isBelow l D cy ad hcl) (pre_S C0) hl dX9_digit_20 rfl (Nat.le_of_ble_eq_true rfl) ⟨rfl, rfl⟩ ⟨Nat.le_of_ble_eq_true rfl, Nat.le_of_ble_eq_true rfl⟩ ⟨Nat.le_of_ble_eq_true rfl, Nat.le_of_ble_eq_true rfl⟩ rfl) ?_
      refine lv_if_ne (tgt := 29) hx hb dX9_digit_23 (by decide) (fun hc => ?_) (fun hc => ?_)
      · have hF := oi_f hc hF
        refine lv_aload_n hx hb dX9_digit_29 rfl (lv_at hl 0 rfl) ?_
        obtain ⟨v30, hv, hF⟩ := ob hF
        refine k_getP C0 M hv fl_X9_12 dX9_digit_30 ?_
        obtain ⟨v33, hv, hF⟩ := ob hF
        refine k_getP C0 M hv fl_X9_165 dX9_digit_33 ?_
        refine lv_iload_n hx hb dX9_digit_36 rfl (lv_at hl 1 rfl) ?_
        obtain ⟨_, hrec, hF⟩ := ob hF
        obtain ⟨v37, hcl, hF⟩ := ob hF
        refine go_SP (r_V (rest := []) (As := [.int x1]) C0 cb_X9_113 M hrec (tJx4a65c_get_915e3 l D cy ad A hcl) (pre_R C0 M) hl dX9_digit_37 rfl (Nat.le_of_ble_eq_true rfl) ⟨rfl, rfl⟩ ⟨Nat.le_of_ble_eq_true rfl, Nat.le_of_ble_eq_true rfl⟩ ⟨Nat.le_of_ble_eq_true rfl, Nat.le_of_ble_eq_true rfl⟩ rfl) ?_
        obtain ⟨v40, hv, hF⟩ := ob hF
        refine k_cast (C := RX8) (T := TX8) (N := 6) C0 M hv (by decide) rfl (uw_of 603 (by decide +kernel) rfl) dX9_digit_40 ?_
        obtain ⟨v43, hv, hF⟩ := ob hF
        refine k_getP C0 M hv fl_X9_191 dX9_digit_43 ?_
        refine lv_iconst (v := (5 : Int32)) hx hb dX9_digit_46 (by decide) ?_
        refine lv_iload_n hx hb dX9_digit_47 rfl (lv_at hl 2 rfl) ?_
        refine lv_imul hx hb dX9_digit_48 ?_
        refine lv_iload_n hx hb dX9_digit_49 rfl (lv_at hl 3 rfl) ?_
        refine lv_iadd hx hb dX9_digit_50 ?_
        obtain ⟨v51, hv, hF⟩ := ob hF
        refine k_ld C0 M hv dX9_digit_51 ?_
        refine lv_istore (lv' := [(4, .int v51), (0, .ref (ad x0)), (1, .int x1), (2, .int x2), (3, .int x3)]) hx hb dX9_digit_52 hl (by decide) rfl (fun ls hl => ?_)
        refine lv_iload hx hb dX9_digit_54 (lv_at hl 0 rfl) ?_
        refine lv_if_ge (tgt := 64) hx hb dX9_digit_56 (by decide) (fun hc => ?_) (fun hc => ?_)
        · have hF := oi_t hc hF
          refine lv_iload hx hb dX9_digit_64 (lv_at hl 0 rfl) ?_
          exact wX9_digit_66 ad A C0 M hr hF (lv_sub hl [] rfl)
        · have hF := oi_f hc hF
          refine lv_bipush (v := (-9 : Int32)) hx hb dX9_digit_59 (by decide) ?_
          refine lv_goto (tgt := 66) hx hb dX9_digit_61 (by decide) ?_
          exact wX9_digit_66 ad A C0 M hr hF (lv_sub hl [] rfl)
      · have hF := oi_t hc hF
        exact wX9_digit_26 ad A C0 M hr hF (lv_sub hl [] rfl)
  · have hF := oi_t hc hF
    refine lv_iconst (v := (-1 : Int32)) hx hb dX9_digit_8 (by decide) ?_
    obtain rfl := (Option.some.inj hF)
    exact rt_SI C0 hr dX9_digit_9
set_option maxHeartbeats 4000000 in
set_option maxRecDepth 100000 in
theorem tX9_digit (l : Launch) (D : va_G) (cy : Nat → ClassId) (ad : Nat → Nat) (A : Nat → Prop) {S : MS} {a0 : Nat} {a1 : Int32} {a2 : Int32} {a3 : Int32} {r : Int32} (h : fX9_digit S a0 a1 a2 a3 = some r) : Met l yX9_digit [Cond.code yX9_digit cX9_digit 5 (some .int)] rmX9_digit (PcR D cy ad A S [.ref (ad a0), .int a1, .int a2, .int a3]) (QcS (some (.int r))) 0 0 (fun _ => False) := by
  refine met_R (by decide +kernel) cw_X9_digit (Nat.le_of_ble_eq_true rfl) ?_
  intro p e s m args below meth c ls C0 M hr hl
  have hl : lv_has ls 5 [(0, .ref (ad a0)), (1, .int a1), (2, .int a2), (3, .int a3)] := hl
  exact wX9_digit_0 ad A C0 M hr h hl
set_option maxHeartbeats 4000000 in
set_option maxRecDepth 100000 in
theorem wX9_doubted_0 {p : Program} {l : Launch} {e : Env} {s : State} {m : MethodId} {args : Array Value} {below : List Frame} {meth : Method} {c : Code} {D : va_G} {cy : Nat → ClassId} (ad : Nat → Nat) (A : Nat → Prop) {S : MS} {S' : MS} {H : Heap} {locs : List Loc} {n0 : Nat} {r : Int32} {ls : Array Slot} {x0 : Nat} (C0 : CX p s m args meth c RX9 cX9_doubted 1 D cy) (M : ST D cy ad A s.heap (ZN n0 s.heap.size) S H locs) (hr : meth.sig.returnType = some .int) (hF : bX9_doubted_0 S x0 = some (r, S')) (hl : lv_has ls 1 [(0, .ref (ad x0))]) : W p l e rmX9_doubted s m args below meth c H locs 0 0 (MQ below (QcM D cy ad A n0 S' (some (.int r))) args s 0 0 A) (F0 m 0 ls []) := by
  unfold bX9_doubted_0 at hF
  obtain ⟨hx, hb, -, hown, -, hts, -⟩ := id C0
  refine lv_aload_n hx hb dX9_doubted_0 rfl (lv_at hl 0 rfl) ?_
  obtain ⟨_, hrec, hF⟩ := ob hF
  obtain ⟨v1, S1, hcl, hF⟩ := ob2 hF
  refine go_MP (r_V (rest := []) (As := []) C0 cb_X9_137 M.1 hrec (tX9_settledChart l D cy ad A hcl) (pre_R C0 M.1) hl dX9_doubted_1 rfl (Nat.le_of_ble_eq_true rfl) ⟨rfl, rfl⟩ ⟨Nat.le_of_ble_eq_true rfl, Nat.le_of_ble_eq_true rfl⟩ ⟨Nat.le_of_ble_eq_true rfl, Nat.le_of_ble_eq_true rfl⟩ rfl) M (fun H locs M => ?_)
  obtain ⟨v4, hv, hF⟩ := ob hF
  refine k_getI C0 M.1 hv fl_X9_141 dX9_doubted_4 ?_
  obtain ⟨rfl, rfl⟩ := Prod.mk.inj (Option.some.inj hF)
  exact rt_MI C0 M hr dX9_doubted_7
set_option maxHeartbeats 4000000 in
set_option maxRecDepth 100000 in
theorem tX9_doubted (l : Launch) (D : va_G) (cy : Nat → ClassId) (ad : Nat → Nat) (A : Nat → Prop) {S S' : MS} {a0 : Nat} {r : Int32} (h : fX9_doubted S a0 = some (r, S')) : Met l yX9_doubted [Cond.code yX9_doubted cX9_doubted 1 (some .int)] rmX9_doubted (PcR D cy ad A S [.ref (ad a0)]) (QcM D cy ad A (m_n S) S' (some (.int r))) 0 0 A := by
  refine met_M (by decide +kernel) cw_X9_doubted (Nat.le_of_ble_eq_true rfl) ?_
  intro p e s m args below meth c ls C0 M hr hin hl
  have hl : lv_has ls 1 [(0, .ref (ad a0))] := hl
  exact wX9_doubted_0 ad A C0 M hr h hl
set_option maxHeartbeats 4000000 in
set_option maxRecDepth 100000 in
theorem wX9_frontsOf_15 {p : Program} {l : Launch} {e : Env} {s : State} {m : MethodId} {args : Array Value} {below : List Frame} {meth : Method} {c : Code} {D : va_G} {cy : Nat → ClassId} (ad : Nat → Nat) (A : Nat → Prop) {S : MS} {r : Nat} {ls : Array Slot} {z0 : Nat} (C0 : CX p s m args meth c RX9 cX9_frontsOf 2 D cy) (M : MW D cy ad A S s.heap) (hr : meth.sig.returnType = (some (.object "java/util/ArrayList"))) (hF : bX9_frontsOf_15 S z0 = some r) (hl : lv_has ls 2 []) : W p l e rmX9_frontsOf s m args below meth c s.heap [] 0 0 (MQ below (QcS (some (.ref (ad r)))) args s 0 0 (fun _ => False)) (F0 m 15 ls [.ref (ad z0)]) := by
  unfold bX9_frontsOf_15 at hF
  obtain ⟨hx, hb, -, hown, -, hts, -⟩ := id C0
  obtain rfl := (Option.some.inj hF)
  exact rt_SP C0 hr (Or.inl ⟨_, rfl⟩) dX9_frontsOf_15
set_option maxHeartbeats 4000000 in
set_option maxRecDepth 100000 in
theorem wX9_frontsOf_0 {p : Program} {l : Launch} {e : Env} {s : State} {m : MethodId} {args : Array Value} {below : List Frame} {meth : Method} {c : Code} {D : va_G} {cy : Nat → ClassId} (ad : Nat → Nat) (A : Nat → Prop) {S : MS} {r : Nat} {ls : Array Slot} {x0 : Nat} {x1 : Int32} (C0 : CX p s m args meth c RX9 cX9_frontsOf 2 D cy) (M : MW D cy ad A S s.heap) (hr : meth.sig.returnType = (some (.object "java/util/ArrayList"))) (hF : bX9_frontsOf_0 S x0 x1 = some r) (hl : lv_has ls 2 [(0, .ref (ad x0)), (1, .int x1)]) : W p l e rmX9_frontsOf s m args below meth c s.heap [] 0 0 (MQ below (QcS (some (.ref (ad r)))) args s 0 0 (fun _ => False)) (F0 m 0 ls []) := by
  unfold bX9_frontsOf_0 at hF
  obtain ⟨hx, hb, -, hown, -, hts, -⟩ := id C0
  refine lv_iload_n hx hb dX9_frontsOf_0 rfl (lv_at hl 1 rfl) ?_
  refine lv_if_ne (tgt := 11) hx hb dX9_frontsOf_1 (by decide) (fun hc => ?_) (fun hc => ?_)
  · have hF := oi_f hc hF
    refine lv_aload_n hx hb dX9_frontsOf_11 rfl (lv_at hl 0 rfl) ?_
    obtain ⟨v12, hv, hF⟩ := ob hF
    refine k_getP C0 M hv fl_X9_36 dX9_frontsOf_12 ?_
    exact wX9_frontsOf_15 ad A C0 M hr hF (lv_sub hl [] rfl)
  · have hF := oi_t hc hF
    refine lv_aload_n hx hb dX9_frontsOf_4 rfl (lv_at hl 0 rfl) ?_
    obtain ⟨v5, hv, hF⟩ := ob hF
    refine k_getP C0 M hv fl_X9_32 dX9_frontsOf_5 ?_
    refine lv_goto (tgt := 15) hx hb dX9_frontsOf_8 (by decide) ?_
    exact wX9_frontsOf_15 ad A C0 M hr hF (lv_sub hl [] rfl)
set_option maxHeartbeats 4000000 in
set_option maxRecDepth 100000 in
theorem tX9_frontsOf (l : Launch) (D : va_G) (cy : Nat → ClassId) (ad : Nat → Nat) (A : Nat → Prop) {S : MS} {a0 : Nat} {a1 : Int32} {r : Nat} (h : fX9_frontsOf S a0 a1 = some r) : Met l yX9_frontsOf [Cond.code yX9_frontsOf cX9_frontsOf 2 ((some (.object "java/util/ArrayList")))] rmX9_frontsOf (PcR D cy ad A S [.ref (ad a0), .int a1]) (QcS (some (.ref (ad r)))) 0 0 (fun _ => False) := by
  refine met_R (by decide +kernel) cw_X9_frontsOf (Nat.le_of_ble_eq_true rfl) ?_
  intro p e s m args below meth c ls C0 M hr hl
  have hl : lv_has ls 2 [(0, .ref (ad a0)), (1, .int a1)] := hl
  exact wX9_frontsOf_0 ad A C0 M hr h hl
set_option maxHeartbeats 4000000 in
set_option maxRecDepth 100000 in
theorem wX5_slotOf_0 {p : Program} {l : Launch} {e : Env} {s : State} {m : MethodId} {args : Array Value} {below : List Frame} {meth : Method} {c : Code} {D : va_G} {cy : Nat → ClassId} (ad : Nat → Nat) (A : Nat → Prop) {r : Int32} {ls : Array Slot} {x0 : Int32} {x1 : Int32} {x2 : Int32} (C0 : CX p s m args meth c RX5 cX5_slotOf 3 D cy) (hr : meth.sig.returnType = some .int) (hF : bX5_slotOf_0 x0 x1 x2 = some r) (hl : lv_has ls 3 [(0, .int x0), (1, .int x1), (2, .int x2)]) : W p l e rmX5_slotOf s m args below meth c s.heap [] 0 0 (MQ below (QcS (some (.int r))) args s 0 0 (fun _ => False)) (F0 m 0 ls []) := by
  unfold bX5_slotOf_0 at hF
  obtain ⟨hx, hb, -, hown, -, hts, -⟩ := id C0
  refine lv_bipush (v := (6 : Int32)) hx hb dX5_slotOf_0 (by decide) ?_
  refine lv_bipush (v := (12 : Int32)) hx hb dX5_slotOf_2 (by decide) ?_
  refine lv_iload_n hx hb dX5_slotOf_4 rfl (lv_at hl 1 rfl) ?_
  refine lv_imul hx hb dX5_slotOf_5 ?_
  refine lv_iload_n hx hb dX5_slotOf_6 rfl (lv_at hl 0 rfl) ?_
  refine lv_iadd hx hb dX5_slotOf_7 ?_
  refine lv_imul hx hb dX5_slotOf_8 ?_
  refine lv_iload_n hx hb dX5_slotOf_9 rfl (lv_at hl 2 rfl) ?_
  refine lv_iadd hx hb dX5_slotOf_10 ?_
  obtain rfl := (Option.some.inj hF)
  exact rt_SI C0 hr dX5_slotOf_11
set_option maxHeartbeats 4000000 in
set_option maxRecDepth 100000 in
theorem tX5_slotOf (l : Launch) (D : va_G) (cy : Nat → ClassId) (ad : Nat → Nat) {a0 : Int32} {a1 : Int32} {a2 : Int32} {r : Int32} (h : fX5_slotOf a0 a1 a2 = some r) : Met l yX5_slotOf [Cond.code yX5_slotOf cX5_slotOf 3 (some .int)] rmX5_slotOf (PcS D cy [.int a0, .int a1, .int a2]) (QcS (some (.int r))) 0 0 (fun _ => False) := by
  refine met_S (by decide +kernel) cw_X5_slotOf (Nat.le_of_ble_eq_true rfl) ?_
  intro p e s m args below meth c ls C0 hr hl
  have hl : lv_has ls 3 [(0, .int a0), (1, .int a1), (2, .int a2)] := hl
  exact wX5_slotOf_0 ad (fun _ => False) C0 hr h hl
set_option maxHeartbeats 4000000 in
set_option maxRecDepth 100000 in
theorem wX5_costBy_39 {p : Program} {l : Launch} {e : Env} {s : State} {m : MethodId} {args : Array Value} {below : List Frame} {meth : Method} {c : Code} {D : va_G} {cy : Nat → ClassId} (ad : Nat → Nat) (A : Nat → Prop) {S : MS} {r : Int32} {ls : Array Slot} {x0 : Nat} {x1 : Int32} {x4 : Int32} {x5 : Int32} {z0 : Int32} (C0 : CX p s m args meth c RX5 cX5_costBy 7 D cy) (M : MW D cy ad A S s.heap) (hr : meth.sig.returnType = some .int) (hF : bX5_costBy_39 S x0 x1 x4 x5 z0 = some r) (hl : lv_has ls 7 [(0, .ref (ad x0)), (1, .int x1), (4, .int x4), (5, .int x5)]) : W p l e rmX5_costBy s m args below meth c s.heap [] 0 0 (MQ below (QcS (some (.int r))) args s 0 0 (fun _ => False)) (F0 m 39 ls [.int z0]) := by
  unfold bX5_costBy_39 at hF
  obtain ⟨hx, hb, -, hown, -, hts, -⟩ := id C0
  refine lv_istore (lv' := [(6, .int z0), (0, .ref (ad x0)), (1, .int x1), (4, .int x4), (5, .int x5)]) hx hb dX5_costBy_39 hl (by decide) rfl (fun ls hl => ?_)
  refine lv_iload hx hb dX5_costBy_41 (lv_at hl 0 rfl) ?_
  refine lv_aload_n hx hb dX5_costBy_43 rfl (lv_at hl 1 rfl) ?_
  obtain ⟨v44, hv, hF⟩ := ob hF
  refine k_getP C0 M hv fl_X5_18 dX5_costBy_44 ?_
  refine lv_iload_n hx hb dX5_costBy_47 rfl (lv_at hl 2 rfl) ?_
  refine lv_iconst (v := (1 : Int32)) hx hb dX5_costBy_48 (by decide) ?_
  refine lv_iadd hx hb dX5_costBy_49 ?_
  refine lv_iload hx hb dX5_costBy_50 (lv_at hl 4 rfl) ?_
  refine lv_iload hx hb dX5_costBy_52 (lv_at hl 3 rfl) ?_
  obtain ⟨v54, hcl, hF⟩ := ob hF
  refine go_SI (r_S (rest := [.ref (ad v44), .int z0]) (As := [.int (x1 + (1 : Int32)), .int x5, .int x4]) C0 cb_X5_44 (tX5_slotOf l D cy ad hcl) (pre_S C0) hl dX5_costBy_54 rfl (Nat.le_of_ble_eq_true rfl) ⟨rfl, rfl⟩ ⟨Nat.le_of_ble_eq_true rfl, Nat.le_of_ble_eq_true rfl⟩ ⟨Nat.le_of_ble_eq_true rfl, Nat.le_of_ble_eq_true rfl⟩ rfl) ?_
  obtain ⟨v57, hv, hF⟩ := ob hF
  refine k_ld C0 M hv dX5_costBy_57 ?_
  refine lv_iadd hx hb dX5_costBy_58 ?_
  obtain rfl := (Option.some.inj hF)
  exact rt_SI C0 hr dX5_costBy_59
set_option maxHeartbeats 4000000 in
set_option maxRecDepth 100000 in
theorem wX5_costBy_0 {p : Program} {l : Launch} {e : Env} {s : State} {m : MethodId} {args : Array Value} {below : List Frame} {meth : Method} {c : Code} {D : va_G} {cy : Nat → ClassId} (ad : Nat → Nat) (A : Nat → Prop) {S : MS} {r : Int32} {ls : Array Slot} {x0 : Nat} {x1 : Int32} {x2 : Int32} {x3 : Int32} {x4 : Int32} (C0 : CX p s m args meth c RX5 cX5_costBy 7 D cy) (M : MW D cy ad A S s.heap) (hr : meth.sig.returnType = some .int) (hF : bX5_costBy_0 S x0 x1 x2 x3 x4 = some r) (hl : lv_has ls 7 [(0, .ref (ad x0)), (1, .int x1), (2, .int x2), (3, .int x3), (4, .int x4)]) : W p l e rmX5_costBy s m args below meth c s.heap [] 0 0 (MQ below (QcS (some (.int r))) args s 0 0 (fun _ => False)) (F0 m 0 ls []) := by
  unfold bX5_costBy_0 at hF
  obtain ⟨hx, hb, -, hown, -, hts, -⟩ := id C0
  refine lv_iload_n hx hb dX5_costBy_0 rfl (lv_at hl 2 rfl) ?_
  refine lv_iload hx hb dX5_costBy_1 (lv_at hl 4 rfl) ?_
  refine lv_iadd hx hb dX5_costBy_3 ?_
  refine lv_iconst (v := (2 : Int32)) hx hb dX5_costBy_4 (by decide) ?_
  refine lv_isub hx hb dX5_costBy_5 ?_
  obtain ⟨v6, hv, hF⟩ := ob hF
  have hv := vtI hv
  refine vtopi hv ?_
  refine lv_istore (lv' := [(5, .int v6), (0, .ref (ad x0)), (1, .int x1), (2, .int x2), (3, .int x3), (4, .int x4)]) hx hb dX5_costBy_6 hl (by decide) rfl (fun ls hl => ?_)
  refine lv_iload_n hx hb dX5_costBy_8 rfl (lv_at hl 2 rfl) ?_
  refine lv_iconst (v := (1 : Int32)) hx hb dX5_costBy_9 (by decide) ?_
  refine lv_iadd hx hb dX5_costBy_10 ?_
  refine lv_iload hx hb dX5_costBy_11 (lv_at hl 0 rfl) ?_
  obtain ⟨v13, hcl, hF⟩ := ob hF
  refine go_SI (r_SN (rest := []) (As := [.int (x1 + (1 : Int32)), .int v6]) C0 cb_X5_27 (tX9_isPlace l D cy ad hcl) (pre_S C0) hl dX5_costBy_13 rfl (Nat.le_of_ble_eq_true rfl) ⟨rfl, rfl⟩ ⟨Nat.le_of_ble_eq_true rfl, Nat.le_of_ble_eq_true rfl⟩ ⟨Nat.le_of_ble_eq_true rfl, Nat.le_of_ble_eq_true rfl⟩ rfl) ?_
  refine lv_if_ne (tgt := 23) hx hb dX5_costBy_16 (by decide) (fun hc => ?_) (fun hc => ?_)
  · have hF := oi_f hc hF
    refine lv_iload_n hx hb dX5_costBy_23 rfl (lv_at hl 4 rfl) ?_
    refine lv_iconst (v := (5 : Int32)) hx hb dX5_costBy_24 (by decide) ?_
    refine lv_icmp_ne (tgt := 32) hx hb dX5_costBy_25 (by decide) (fun hc => ?_) (fun hc => ?_)
    · have hF := oi_f hc hF
      refine lv_iload hx hb dX5_costBy_32 (lv_at hl 5 rfl) ?_
      refine lv_iload_n hx hb dX5_costBy_34 rfl (lv_at hl 4 rfl) ?_
      refine lv_isub hx hb dX5_costBy_35 ?_
      obtain ⟨v36, hcl, hF⟩ := ob hF
      refine go_SI (r_S (rest := []) (As := [.int (x4 - x3)]) C0 cb_X5_67 (tJ9_abs_0f7a4 l D cy ad hcl) (pre_S C0) hl dX5_costBy_36 rfl (Nat.le_of_ble_eq_true rfl) ⟨rfl, rfl⟩ ⟨Nat.le_of_ble_eq_true rfl, Nat.le_of_ble_eq_true rfl⟩ ⟨Nat.le_of_ble_eq_true rfl, Nat.le_of_ble_eq_true rfl⟩ rfl) ?_
      exact wX5_costBy_39 ad A C0 M hr hF (lv_sub hl [1, 2, 5, 0] rfl)
    · have hF := oi_t hc hF
      refine lv_iconst (v := (0 : Int32)) hx hb dX5_costBy_28 (by decide) ?_
      refine lv_goto (tgt := 39) hx hb dX5_costBy_29 (by decide) ?_
      exact wX5_costBy_39 ad A C0 M hr hF (lv_sub hl [1, 2, 5, 0] rfl)
  · have hF := oi_t hc hF
    refine lv_sipush (v := (1000 : Int32)) hx hb dX5_costBy_19 (by decide) ?_
    obtain rfl := (Option.some.inj hF)
    exact rt_SI C0 hr dX5_costBy_22
set_option maxHeartbeats 4000000 in
set_option maxRecDepth 100000 in
theorem tX5_costBy (l : Launch) (D : va_G) (cy : Nat → ClassId) (ad : Nat → Nat) (A : Nat → Prop) {S : MS} {a0 : Nat} {a1 : Int32} {a2 : Int32} {a3 : Int32} {a4 : Int32} {r : Int32} (h : fX5_costBy S a0 a1 a2 a3 a4 = some r) : Met l yX5_costBy [Cond.code yX5_costBy cX5_costBy 7 (some .int)] rmX5_costBy (PcR D cy ad A S [.ref (ad a0), .int a1, .int a2, .int a3, .int a4]) (QcS (some (.int r))) 0 0 (fun _ => False) := by
  refine met_R (by decide +kernel) cw_X5_costBy (Nat.le_of_ble_eq_true rfl) ?_
  intro p e s m args below meth c ls C0 M hr hl
  have hl : lv_has ls 7 [(0, .ref (ad a0)), (1, .int a1), (2, .int a2), (3, .int a3), (4, .int a4)] := hl
  exact wX5_costBy_0 ad A C0 M hr h hl
set_option maxHeartbeats 4000000 in
set_option maxRecDepth 100000 in
theorem wX5_leastCost_0 {p : Program} {l : Launch} {e : Env} {s : State} {m : MethodId} {args : Array Value} {below : List Frame} {meth : Method} {c : Code} {D : va_G} {cy : Nat → ClassId} (ad : Nat → Nat) (A : Nat → Prop) {S : MS} {r : Int32} {out : ((Nat × Int32 × Int32 × Int32 × Int32 × Int32) ⊕ Int32)} {ls : Array Slot} {x0 : Nat} {x1 : Int32} {x2 : Int32} {x3 : Int32} {x4 : Int32} (C0 : CX p s m args meth c RX5 cX5_leastCost 7 D cy) (M : MW D cy ad A S s.heap) (hr : meth.sig.returnType = some .int) (hF : bX5_leastCost_0 S x0 x1 x2 x3 x4 = some out) (hl : lv_has ls 7 [(0, .ref (ad x0)), (1, .int x1), (2, .int x2), (3, .int x3), (4, .int x4)]) (Kr : ∀ r9, out = .inr r9 → r9 = r) (Kh0 : ∀ (y0 : Nat) (y1 : Int32) (y2 : Int32) (y3 : Int32) (y4 : Int32) (y5 : Int32), out = .inl (y0, y1, y2, y3, y4, y5) → ∀ (ls1 : Array Slot), lv_has ls1 7 [(0, .ref (ad y0)), (1, .int y1), (2, .int y2), (3, .int y3), (5, .int y4), (6, .int y5)] → W p l e rmX5_leastCost s m args below meth c s.heap [] 0 0 (MQ below (QcS (some (.int r))) args s 0 0 (fun _ => False)) (F0 m 39 ls1 [])) : W p l e rmX5_leastCost s m args below meth c s.heap [] 0 0 (MQ below (QcS (some (.int r))) args s 0 0 (fun _ => False)) (F0 m 0 ls []) := by
  unfold bX5_leastCost_0 at hF
  obtain ⟨hx, hb, -, hown, -, hts, -⟩ := id C0
  refine lv_iload_n hx hb dX5_leastCost_0 rfl (lv_at hl 2 rfl) ?_
  refine lv_aload_n hx hb dX5_leastCost_1 rfl (lv_at hl 0 rfl) ?_
  obtain ⟨v2, hv, hF⟩ := ob hF
  refine k_getP C0 M hv fl_X5_9 dX5_leastCost_2 ?_
  refine lv_iload_n hx hb dX5_leastCost_5 rfl (lv_at hl 1 rfl) ?_
  obtain ⟨v6, hv, hF⟩ := ob hF
  refine k_ld C0 M hv dX5_leastCost_6 ?_
  refine lv_aload_n hx hb dX5_leastCost_7 rfl (lv_at hl 0 rfl) ?_
  obtain ⟨v8, hv, hF⟩ := ob hF
  refine k_getP C0 M hv fl_X5_15 dX5_leastCost_8 ?_
  refine lv_iload_n hx hb dX5_leastCost_11 rfl (lv_at hl 1 rfl) ?_
  obtain ⟨v12, hv, hF⟩ := ob hF
  refine k_ld C0 M hv dX5_leastCost_12 ?_
  obtain ⟨v13, hcl, hF⟩ := ob hF
  refine go_SI (r_SN (rest := []) (As := [.int x2, .int v6, .int v12]) C0 cb_X5_60 (tX9_isWithin l D cy ad hcl) (pre_S C0) hl dX5_leastCost_13 rfl (Nat.le_of_ble_eq_true rfl) ⟨rfl, rfl⟩ ⟨Nat.le_of_ble_eq_true rfl, Nat.le_of_ble_eq_true rfl⟩ ⟨Nat.le_of_ble_eq_true rfl, Nat.le_of_ble_eq_true rfl⟩ rfl) ?_
  refine lv_if_ne (tgt := 23) hx hb dX5_leastCost_16 (by decide) (fun hc => ?_) (fun hc => ?_)
  · have hF := oi_f hc hF
    refine lv_iload_n hx hb dX5_leastCost_23 rfl (lv_at hl 1 rfl) ?_
    refine lv_iload hx hb dX5_leastCost_24 (lv_at hl 4 rfl) ?_
    refine lv_icmp_ne (tgt := 31) hx hb dX5_leastCost_26 (by decide) (fun hc => ?_) (fun hc => ?_)
    · have hF := oi_f hc hF
      refine lv_sipush (v := (1000 : Int32)) hx hb dX5_leastCost_31 (by decide) ?_
      refine lv_istore (lv' := [(5, .int (1000 : Int32)), (0, .ref (ad x0)), (1, .int x1), (2, .int x2), (3, .int x3), (4, .int x4)]) hx hb dX5_leastCost_34 hl (by decide) rfl (fun ls hl => ?_)
      refine lv_iconst (v := (0 : Int32)) hx hb dX5_leastCost_36 (by decide) ?_
      refine lv_istore (lv' := [(6, .int (0 : Int32)), (5, .int (1000 : Int32)), (0, .ref (ad x0)), (1, .int x1), (2, .int x2), (3, .int x3), (4, .int x4)]) hx hb dX5_leastCost_37 hl (by decide) rfl (fun ls hl => ?_)
      exact Kh0 _ _ _ _ _ _ (Option.some.inj hF).symm _ (lv_sub hl [2, 3, 4, 5, 1, 0] rfl)
    · have hF := oi_t hc hF
      refine lv_iconst (v := (0 : Int32)) hx hb dX5_leastCost_29 (by decide) ?_
      obtain rfl := (Kr _ (Option.some.inj hF).symm)
      exact rt_SI C0 hr dX5_leastCost_30
  · have hF := oi_t hc hF
    refine lv_sipush (v := (1000 : Int32)) hx hb dX5_leastCost_19 (by decide) ?_
    obtain rfl := (Kr _ (Option.some.inj hF).symm)
    exact rt_SI C0 hr dX5_leastCost_22
set_option maxHeartbeats 4000000 in
set_option maxRecDepth 100000 in
theorem wX5_leastCost_39 {p : Program} {l : Launch} {e : Env} {s : State} {m : MethodId} {args : Array Value} {below : List Frame} {meth : Method} {c : Code} {D : va_G} {cy : Nat → ClassId} (ad : Nat → Nat) (A : Nat → Prop) {S : MS} {r : Int32} {out : ((Nat × Int32 × Int32 × Int32 × Int32 × Int32) ⊕ Int32)} {ls : Array Slot} {x0 : Nat} {x1 : Int32} {x2 : Int32} {x3 : Int32} {x5 : Int32} {x6 : Int32} (C0 : CX p s m args meth c RX5 cX5_leastCost 7 D cy) (M : MW D cy ad A S s.heap) (hr : meth.sig.returnType = some .int) (hF : bX5_leastCost_39 S x0 x1 x2 x3 x5 x6 = some out) (hl : lv_has ls 7 [(0, .ref (ad x0)), (1, .int x1), (2, .int x2), (3, .int x3), (5, .int x5), (6, .int x6)]) (Kr : ∀ r9, out = .inr r9 → r9 = r) (Kh0 : ∀ (y0 : Nat) (y1 : Int32) (y2 : Int32) (y3 : Int32) (y4 : Int32) (y5 : Int32), out = .inl (y0, y1, y2, y3, y4, y5) → ∀ (ls1 : Array Slot), lv_has ls1 7 [(0, .ref (ad y0)), (1, .int y1), (2, .int y2), (3, .int y3), (5, .int y4), (6, .int y5)] → W p l e rmX5_leastCost s m args below meth c s.heap [] 0 0 (MQ below (QcS (some (.int r))) args s 0 0 (fun _ => False)) (F0 m 39 ls1 [])) : W p l e rmX5_leastCost s m args below meth c s.heap [] 0 0 (MQ below (QcS (some (.int r))) args s 0 0 (fun _ => False)) (F0 m 39 ls []) := by
  unfold bX5_leastCost_39 at hF
  obtain ⟨hx, hb, -, hown, -, hts, -⟩ := id C0
  refine lv_iload hx hb dX5_leastCost_39 (lv_at hl 5 rfl) ?_
  refine lv_iconst (v := (5 : Int32)) hx hb dX5_leastCost_41 (by decide) ?_
  refine lv_icmp_ge (tgt := 67) hx hb dX5_leastCost_42 (by decide) (fun hc => ?_) (fun hc => ?_)
  · have hF := oi_t hc hF
    refine lv_iload hx hb dX5_leastCost_67 (lv_at hl 4 rfl) ?_
    obtain rfl := (Kr _ (Option.some.inj hF).symm)
    exact rt_SI C0 hr dX5_leastCost_69
  · have hF := oi_f hc hF
    refine lv_iload hx hb dX5_leastCost_45 (lv_at hl 4 rfl) ?_
    refine lv_aload_n hx hb dX5_leastCost_47 rfl (lv_at hl 0 rfl) ?_
    refine lv_iload_n hx hb dX5_leastCost_48 rfl (lv_at hl 1 rfl) ?_
    refine lv_iload_n hx hb dX5_leastCost_49 rfl (lv_at hl 2 rfl) ?_
    refine lv_iload_n hx hb dX5_leastCost_50 rfl (lv_at hl 3 rfl) ?_
    refine lv_iload hx hb dX5_leastCost_51 (lv_at hl 5 rfl) ?_
    obtain ⟨_, hrec, hF⟩ := ob hF
    obtain ⟨v53, hcl, hF⟩ := ob hF
    refine go_SI (r_V (rest := [.int x5]) (As := [.int x1, .int x2, .int x3, .int x6]) C0 cb_X5_64 M hrec (tX5_costBy l D cy ad A hcl) (pre_R C0 M) hl dX5_leastCost_53 rfl (Nat.le_of_ble_eq_true rfl) ⟨rfl, rfl⟩ ⟨Nat.le_of_ble_eq_true rfl, Nat.le_of_ble_eq_true rfl⟩ ⟨Nat.le_of_ble_eq_true rfl, Nat.le_of_ble_eq_true rfl⟩ rfl) ?_
    obtain ⟨v56, hcl, hF⟩ := ob hF
    refine go_SI (r_S (rest := []) (As := [.int x5, .int v53]) C0 cb_X5_37 (tJ9_min_7cf53 l D cy ad hcl) (pre_S C0) hl dX5_leastCost_56 rfl (Nat.le_of_ble_eq_true rfl) ⟨rfl, rfl⟩ ⟨Nat.le_of_ble_eq_true rfl, Nat.le_of_ble_eq_true rfl⟩ ⟨Nat.le_of_ble_eq_true rfl, Nat.le_of_ble_eq_true rfl⟩ rfl) ?_
    refine lv_istore (lv' := [(5, .int v56), (0, .ref (ad x0)), (1, .int x1), (2, .int x2), (3, .int x3), (6, .int x6)]) hx hb dX5_leastCost_59 hl (by decide) rfl (fun ls hl => ?_)
    obtain ⟨v61, hv, hF⟩ := ob hF
    refine lv_iinc (v := v61) (lv' := [(6, .int v61), (5, .int v56), (0, .ref (ad x0)), (1, .int x1), (2, .int x2), (3, .int x3)]) hx hb dX5_leastCost_61 hl (k := 5) rfl (by rw [← vtI hv]; rfl) (by decide) rfl (fun ls hl => ?_)
    refine lv_goto (tgt := 39) hx hb dX5_leastCost_64 (by decide) ?_
    exact Kh0 _ _ _ _ _ _ (Option.some.inj hF).symm _ (lv_sub hl [2, 3, 4, 5, 1, 0] rfl)
set_option maxHeartbeats 4000000 in
set_option maxRecDepth 100000 in
theorem tX5_leastCost (l : Launch) (D : va_G) (cy : Nat → ClassId) (ad : Nat → Nat) (A : Nat → Prop) {S : MS} {a0 : Nat} {a1 : Int32} {a2 : Int32} {a3 : Int32} {a4 : Int32} {r : Int32} (h : fX5_leastCost S a0 a1 a2 a3 a4 = some r) : Met l yX5_leastCost [Cond.code yX5_leastCost cX5_leastCost 7 (some .int)] rmX5_leastCost (PcR D cy ad A S [.ref (ad a0), .int a1, .int a2, .int a3, .int a4]) (QcS (some (.int r))) 0 0 (fun _ => False) := by
  refine met_R (by decide +kernel) cw_X5_leastCost (Nat.le_of_ble_eq_true rfl) ?_
  intro p e s m args below meth c ls C0 M hr hl
  have hl : lv_has ls 7 [(0, .ref (ad a0)), (1, .int a1), (2, .int a2), (3, .int a3), (4, .int a4)] := hl
  have key := lim_walk (step := sX5_leastCost S) (fun (q : (Nat × Int32 × Int32 × Int32 × Int32 × Int32)) (r9 : Int32) => ∀ (r : Int32), r9 = r → ((∀ (y0 : Nat) (y1 : Int32) (y2 : Int32) (y3 : Int32) (y4 : Int32) (y5 : Int32), q = (y0, y1, y2, y3, y4, y5) → ∀ (ls1 : Array Slot), lv_has ls1 7 [(0, .ref (ad y0)), (1, .int y1), (2, .int y2), (3, .int y3), (5, .int y4), (6, .int y5)] → W p l e rmX5_leastCost s m args below meth c s.heap [] 0 0 (MQ below (QcS (some (.int r))) args s 0 0 (fun _ => False)) (F0 m 39 ls1 [])))) ?_
  · unfold fX5_leastCost at h
    cases hs0 : bX5_leastCost_0 S a0 a1 a2 a3 a4 with
    | none => rw [hs0] at h; cases h
    | some out =>
      rw [hs0] at h
      refine wX5_leastCost_0 ad A C0 M hr hs0 hl (fun r9 hr9 => ?_) ?_
      · subst hr9; exact Option.some.inj h
      · intro y0 y1 y2 y3 y4 y5 hq; subst hq; exact (key _ _ h _ rfl) _ _ _ _ _ _ rfl
  · intro q r9 out hst hre hin9
    intro r er; subst er
    refine ?_
    · intro y0 y1 y2 y3 y4 y5 hq ls1 hl
      subst hq
      exact wX5_leastCost_39 ad A C0 M hr hst hl hre (fun k0 k1 k2 k3 k4 k5 hk => (hin9 _ hk _ rfl) _ _ _ _ _ _ rfl)
set_option maxHeartbeats 4000000 in
set_option maxRecDepth 100000 in
theorem wX5_weigh_0 {p : Program} {l : Launch} {e : Env} {s : State} {m : MethodId} {args : Array Value} {below : List Frame} {meth : Method} {c : Code} {D : va_G} {cy : Nat → ClassId} (ad : Nat → Nat) (A : Nat → Prop) {S : MS} {S' : MS} {H : Heap} {locs : List Loc} {n0 : Nat} {out : (((Nat × Int32 × Int32 × Int32 × MS) ⊕ ((Nat × Int32 × Int32 × Int32 × Int32 × MS) ⊕ (Nat × Int32 × Int32 × Int32 × Int32 × Int32 × MS))) ⊕ MS)} {ls : Array Slot} {x0 : Nat} {x1 : Int32} {x2 : Int32} (C0 : CX p s m args meth c RX5 cX5_weigh 6 D cy) (M : ST D cy ad A s.heap (ZN n0 s.heap.size) S H locs) (hr : meth.sig.returnType = none) (hF : bX5_weigh_0 S x0 x1 x2 = some out) (hl : lv_has ls 6 [(0, .ref (ad x0)), (1, .int x1), (2, .int x2)]) (Kr : ∀ r9, out = .inr r9 → r9 = S') (Kh0 : ∀ (y0 : Nat) (y1 : Int32) (y2 : Int32) (y3 : Int32) (S2 : MS), out = .inl (.inl (y0, y1, y2, y3, S2)) → ∀ (H1 : Heap) (locs1 : List Loc) (ls1 : Array Slot), ST D cy ad A s.heap (ZN n0 s.heap.size) S2 H1 locs1 → lv_has ls1 6 [(0, .ref (ad y0)), (1, .int y1), (2, .int y2), (3, .int y3)] → W p l e rmX5_weigh s m args below meth c H1 locs1 0 0 (MQ below (QcM D cy ad A n0 S' (none)) args s 0 0 A) (F0 m 2 ls1 [])) (Kh1 : ∀ (y0 : Nat) (y1 : Int32) (y2 : Int32) (y3 : Int32) (y4 : Int32) (S2 : MS), out = .inl (.inr (.inl (y0, y1, y2, y3, y4, S2))) → ∀ (H1 : Heap) (locs1 : List Loc) (ls1 : Array Slot), ST D cy ad A s.heap (ZN n0 s.heap.size) S2 H1 locs1 → lv_has ls1 6 [(0, .ref (ad y0)), (1, .int y1), (2, .int y2), (3, .int y3), (4, .int y4)] → W p l e rmX5_weigh s m args below meth c H1 locs1 0 0 (MQ below (QcM D cy ad A n0 S' (none)) args s 0 0 A) (F0 m 10 ls1 [])) (Kh2 : ∀ (y0 : Nat) (y1 : Int32) (y2 : Int32) (y3 : Int32) (y4 : Int32) (y5 : Int32) (S2 : MS), out = .inl (.inr (.inr (y0, y1, y2, y3, y4, y5, S2))) → ∀ (H1 : Heap) (locs1 : List Loc) (ls1 : Array Slot), ST D cy ad A s.heap (ZN n0 s.heap.size) S2 H1 locs1 → lv_has ls1 6 [(0, .ref (ad y0)), (1, .int y1), (2, .int y2), (3, .int y3), (4, .int y4), (5, .int y5)] → W p l e rmX5_weigh s m args below meth c H1 locs1 0 0 (MQ below (QcM D cy ad A n0 S' (none)) args s 0 0 A) (F0 m 20 ls1 [])) : W p l e rmX5_weigh s m args below meth c H locs 0 0 (MQ below (QcM D cy ad A n0 S' (none)) args s 0 0 A) (F0 m 0 ls []) := by
  unfold bX5_weigh_0 at hF
  obtain ⟨hx, hb, -, hown, -, hts, -⟩ := id C0
  refine lv_iload_n hx hb dX5_weigh_0 rfl (lv_at hl 2 rfl) ?_
  refine lv_istore_n (lv' := [(3, .int x2), (0, .ref (ad x0)), (1, .int x1), (2, .int x2)]) hx hb dX5_weigh_1 rfl hl (by decide) rfl (fun ls hl => ?_)
  exact Kh0 _ _ _ _ _ (Option.some.inj hF).symm _ _ _ M (lv_sub hl [1, 2, 3, 0] rfl)
set_option maxHeartbeats 4000000 in
set_option maxRecDepth 100000 in
theorem wX5_weigh_2 {p : Program} {l : Launch} {e : Env} {s : State} {m : MethodId} {args : Array Value} {below : List Frame} {meth : Method} {c : Code} {D : va_G} {cy : Nat → ClassId} (ad : Nat → Nat) (A : Nat → Prop) {S : MS} {S' : MS} {H : Heap} {locs : List Loc} {n0 : Nat} {out : (((Nat × Int32 × Int32 × Int32 × MS) ⊕ ((Nat × Int32 × Int32 × Int32 × Int32 × MS) ⊕ (Nat × Int32 × Int32 × Int32 × Int32 × Int32 × MS))) ⊕ MS)} {ls : Array Slot} {x0 : Nat} {x1 : Int32} {x2 : Int32} {x3 : Int32} (C0 : CX p s m args meth c RX5 cX5_weigh 6 D cy) (M : ST D cy ad A s.heap (ZN n0 s.heap.size) S H locs) (hr : meth.sig.returnType = none) (hF : bX5_weigh_2 S x0 x1 x2 x3 = some out) (hl : lv_has ls 6 [(0, .ref (ad x0)), (1, .int x1), (2, .int x2), (3, .int x3)]) (Kr : ∀ r9, out = .inr r9 → r9 = S') (Kh0 : ∀ (y0 : Nat) (y1 : Int32) (y2 : Int32) (y3 : Int32) (S2 : MS), out = .inl (.inl (y0, y1, y2, y3, S2)) → ∀ (H1 : Heap) (locs1 : List Loc) (ls1 : Array Slot), ST D cy ad A s.heap (ZN n0 s.heap.size) S2 H1 locs1 → lv_has ls1 6 [(0, .ref (ad y0)), (1, .int y1), (2, .int y2), (3, .int y3)] → W p l e rmX5_weigh s m args below meth c H1 locs1 0 0 (MQ below (QcM D cy ad A n0 S' (none)) args s 0 0 A) (F0 m 2 ls1 [])) (Kh1 : ∀ (y0 : Nat) (y1 : Int32) (y2 : Int32) (y3 : Int32) (y4 : Int32) (S2 : MS), out = .inl (.inr (.inl (y0, y1, y2, y3, y4, S2))) → ∀ (H1 : Heap) (locs1 : List Loc) (ls1 : Array Slot), ST D cy ad A s.heap (ZN n0 s.heap.size) S2 H1 locs1 → lv_has ls1 6 [(0, .ref (ad y0)), (1, .int y1), (2, .int y2), (3, .int y3), (4, .int y4)] → W p l e rmX5_weigh s m args below meth c H1 locs1 0 0 (MQ below (QcM D cy ad A n0 S' (none)) args s 0 0 A) (F0 m 10 ls1 [])) (Kh2 : ∀ (y0 : Nat) (y1 : Int32) (y2 : Int32) (y3 : Int32) (y4 : Int32) (y5 : Int32) (S2 : MS), out = .inl (.inr (.inr (y0, y1, y2, y3, y4, y5, S2))) → ∀ (H1 : Heap) (locs1 : List Loc) (ls1 : Array Slot), ST D cy ad A s.heap (ZN n0 s.heap.size) S2 H1 locs1 → lv_has ls1 6 [(0, .ref (ad y0)), (1, .int y1), (2, .int y2), (3, .int y3), (4, .int y4), (5, .int y5)] → W p l e rmX5_weigh s m args below meth c H1 locs1 0 0 (MQ below (QcM D cy ad A n0 S' (none)) args s 0 0 A) (F0 m 20 ls1 [])) : W p l e rmX5_weigh s m args below meth c H locs 0 0 (MQ below (QcM D cy ad A n0 S' (none)) args s 0 0 A) (F0 m 2 ls []) := by
  unfold bX5_weigh_2 at hF
  obtain ⟨hx, hb, -, hown, -, hts, -⟩ := id C0
  refine lv_iload_n hx hb dX5_weigh_2 rfl (lv_at hl 3 rfl) ?_
  refine lv_iload_n hx hb dX5_weigh_3 rfl (lv_at hl 1 rfl) ?_
  refine lv_icmp_lt (tgt := 68) hx hb dX5_weigh_4 (by decide) (fun hc => ?_) (fun hc => ?_)
  · have hF := oi_t hc hF
    obtain rfl := (Kr _ (Option.some.inj hF).symm)
    exact rt_MV C0 M hr dX5_weigh_68
  · have hF := oi_f hc hF
    refine lv_iconst (v := (0 : Int32)) hx hb dX5_weigh_7 (by decide) ?_
    refine lv_istore (lv' := [(4, .int (0 : Int32)), (0, .ref (ad x0)), (1, .int x1), (2, .int x2), (3, .int x3)]) hx hb dX5_weigh_8 hl (by decide) rfl (fun ls hl => ?_)
    exact Kh1 _ _ _ _ _ _ (Option.some.inj hF).symm _ _ _ M (lv_sub hl [1, 2, 3, 4, 0] rfl)
set_option maxHeartbeats 4000000 in
set_option maxRecDepth 100000 in
theorem wX5_weigh_10 {p : Program} {l : Launch} {e : Env} {s : State} {m : MethodId} {args : Array Value} {below : List Frame} {meth : Method} {c : Code} {D : va_G} {cy : Nat → ClassId} (ad : Nat → Nat) (A : Nat → Prop) {S : MS} {S' : MS} {H : Heap} {locs : List Loc} {n0 : Nat} {out : (((Nat × Int32 × Int32 × Int32 × MS) ⊕ ((Nat × Int32 × Int32 × Int32 × Int32 × MS) ⊕ (Nat × Int32 × Int32 × Int32 × Int32 × Int32 × MS))) ⊕ MS)} {ls : Array Slot} {x0 : Nat} {x1 : Int32} {x2 : Int32} {x3 : Int32} {x4 : Int32} (C0 : CX p s m args meth c RX5 cX5_weigh 6 D cy) (M : ST D cy ad A s.heap (ZN n0 s.heap.size) S H locs) (hr : meth.sig.returnType = none) (hF : bX5_weigh_10 S x0 x1 x2 x3 x4 = some out) (hl : lv_has ls 6 [(0, .ref (ad x0)), (1, .int x1), (2, .int x2), (3, .int x3), (4, .int x4)]) (Kr : ∀ r9, out = .inr r9 → r9 = S') (Kh0 : ∀ (y0 : Nat) (y1 : Int32) (y2 : Int32) (y3 : Int32) (S2 : MS), out = .inl (.inl (y0, y1, y2, y3, S2)) → ∀ (H1 : Heap) (locs1 : List Loc) (ls1 : Array Slot), ST D cy ad A s.heap (ZN n0 s.heap.size) S2 H1 locs1 → lv_has ls1 6 [(0, .ref (ad y0)), (1, .int y1), (2, .int y2), (3, .int y3)] → W p l e rmX5_weigh s m args below meth c H1 locs1 0 0 (MQ below (QcM D cy ad A n0 S' (none)) args s 0 0 A) (F0 m 2 ls1 [])) (Kh1 : ∀ (y0 : Nat) (y1 : Int32) (y2 : Int32) (y3 : Int32) (y4 : Int32) (S2 : MS), out = .inl (.inr (.inl (y0, y1, y2, y3, y4, S2))) → ∀ (H1 : Heap) (locs1 : List Loc) (ls1 : Array Slot), ST D cy ad A s.heap (ZN n0 s.heap.size) S2 H1 locs1 → lv_has ls1 6 [(0, .ref (ad y0)), (1, .int y1), (2, .int y2), (3, .int y3), (4, .int y4)] → W p l e rmX5_weigh s m args below meth c H1 locs1 0 0 (MQ below (QcM D cy ad A n0 S' (none)) args s 0 0 A) (F0 m 10 ls1 [])) (Kh2 : ∀ (y0 : Nat) (y1 : Int32) (y2 : Int32) (y3 : Int32) (y4 : Int32) (y5 : Int32) (S2 : MS), out = .inl (.inr (.inr (y0, y1, y2, y3, y4, y5, S2))) → ∀ (H1 : Heap) (locs1 : List Loc) (ls1 : Array Slot), ST D cy ad A s.heap (ZN n0 s.heap.size) S2 H1 locs1 → lv_has ls1 6 [(0, .ref (ad y0)), (1, .int y1), (2, .int y2), (3, .int y3), (4, .int y4), (5, .int y5)] → W p l e rmX5_weigh s m args below meth c H1 locs1 0 0 (MQ below (QcM D cy ad A n0 S' (none)) args s 0 0 A) (F0 m 20 ls1 [])) : W p l e rmX5_weigh s m args below meth c H locs 0 0 (MQ below (QcM D cy ad A n0 S' (none)) args s 0 0 A) (F0 m 10 ls []) := by
  unfold bX5_weigh_10 at hF
  obtain ⟨hx, hb, -, hown, -, hts, -⟩ := id C0
  refine lv_iload hx hb dX5_weigh_10 (lv_at hl 4 rfl) ?_
  refine lv_bipush (v := (12 : Int32)) hx hb dX5_weigh_12 (by decide) ?_
  refine lv_icmp_ge (tgt := 62) hx hb dX5_weigh_14 (by decide) (fun hc => ?_) (fun hc => ?_)
  · have hF := oi_t hc hF
    obtain ⟨v62, hv, hF⟩ := ob hF
    refine lv_iinc (v := v62) (lv' := [(3, .int v62), (0, .ref (ad x0)), (1, .int x1), (2, .int x2), (4, .int x4)]) hx hb dX5_weigh_62 hl (k := 3) rfl (by rw [← vtI hv]; rfl) (by decide) rfl (fun ls hl => ?_)
    refine lv_goto (tgt := 2) hx hb dX5_weigh_65 (by decide) ?_
    exact Kh0 _ _ _ _ _ (Option.some.inj hF).symm _ _ _ M (lv_sub hl [1, 2, 3, 0] rfl)
  · have hF := oi_f hc hF
    refine lv_iconst (v := (0 : Int32)) hx hb dX5_weigh_17 (by decide) ?_
    refine lv_istore (lv' := [(5, .int (0 : Int32)), (0, .ref (ad x0)), (1, .int x1), (2, .int x2), (3, .int x3), (4, .int x4)]) hx hb dX5_weigh_18 hl (by decide) rfl (fun ls hl => ?_)
    exact Kh2 _ _ _ _ _ _ _ (Option.some.inj hF).symm _ _ _ M (lv_sub hl [1, 2, 3, 4, 5, 0] rfl)
set_option maxHeartbeats 4000000 in
set_option maxRecDepth 100000 in
theorem wX5_weigh_20 {p : Program} {l : Launch} {e : Env} {s : State} {m : MethodId} {args : Array Value} {below : List Frame} {meth : Method} {c : Code} {D : va_G} {cy : Nat → ClassId} (ad : Nat → Nat) (A : Nat → Prop) {S : MS} {S' : MS} {H : Heap} {locs : List Loc} {n0 : Nat} {out : (((Nat × Int32 × Int32 × Int32 × MS) ⊕ ((Nat × Int32 × Int32 × Int32 × Int32 × MS) ⊕ (Nat × Int32 × Int32 × Int32 × Int32 × Int32 × MS))) ⊕ MS)} {ls : Array Slot} {x0 : Nat} {x1 : Int32} {x2 : Int32} {x3 : Int32} {x4 : Int32} {x5 : Int32} (C0 : CX p s m args meth c RX5 cX5_weigh 6 D cy) (M : ST D cy ad A s.heap (ZN n0 s.heap.size) S H locs) (hr : meth.sig.returnType = none) (hF : bX5_weigh_20 S x0 x1 x2 x3 x4 x5 = some out) (hl : lv_has ls 6 [(0, .ref (ad x0)), (1, .int x1), (2, .int x2), (3, .int x3), (4, .int x4), (5, .int x5)]) (Kr : ∀ r9, out = .inr r9 → r9 = S') (Kh0 : ∀ (y0 : Nat) (y1 : Int32) (y2 : Int32) (y3 : Int32) (S2 : MS), out = .inl (.inl (y0, y1, y2, y3, S2)) → ∀ (H1 : Heap) (locs1 : List Loc) (ls1 : Array Slot), ST D cy ad A s.heap (ZN n0 s.heap.size) S2 H1 locs1 → lv_has ls1 6 [(0, .ref (ad y0)), (1, .int y1), (2, .int y2), (3, .int y3)] → W p l e rmX5_weigh s m args below meth c H1 locs1 0 0 (MQ below (QcM D cy ad A n0 S' (none)) args s 0 0 A) (F0 m 2 ls1 [])) (Kh1 : ∀ (y0 : Nat) (y1 : Int32) (y2 : Int32) (y3 : Int32) (y4 : Int32) (S2 : MS), out = .inl (.inr (.inl (y0, y1, y2, y3, y4, S2))) → ∀ (H1 : Heap) (locs1 : List Loc) (ls1 : Array Slot), ST D cy ad A s.heap (ZN n0 s.heap.size) S2 H1 locs1 → lv_has ls1 6 [(0, .ref (ad y0)), (1, .int y1), (2, .int y2), (3, .int y3), (4, .int y4)] → W p l e rmX5_weigh s m args below meth c H1 locs1 0 0 (MQ below (QcM D cy ad A n0 S' (none)) args s 0 0 A) (F0 m 10 ls1 [])) (Kh2 : ∀ (y0 : Nat) (y1 : Int32) (y2 : Int32) (y3 : Int32) (y4 : Int32) (y5 : Int32) (S2 : MS), out = .inl (.inr (.inr (y0, y1, y2, y3, y4, y5, S2))) → ∀ (H1 : Heap) (locs1 : List Loc) (ls1 : Array Slot), ST D cy ad A s.heap (ZN n0 s.heap.size) S2 H1 locs1 → lv_has ls1 6 [(0, .ref (ad y0)), (1, .int y1), (2, .int y2), (3, .int y3), (4, .int y4), (5, .int y5)] → W p l e rmX5_weigh s m args below meth c H1 locs1 0 0 (MQ below (QcM D cy ad A n0 S' (none)) args s 0 0 A) (F0 m 20 ls1 [])) : W p l e rmX5_weigh s m args below meth c H locs 0 0 (MQ below (QcM D cy ad A n0 S' (none)) args s 0 0 A) (F0 m 20 ls []) := by
  unfold bX5_weigh_20 at hF
  obtain ⟨hx, hb, -, hown, -, hts, -⟩ := id C0
  refine lv_iload hx hb dX5_weigh_20 (lv_at hl 5 rfl) ?_
  refine lv_bipush (v := (6 : Int32)) hx hb dX5_weigh_22 (by decide) ?_
  refine lv_icmp_ge (tgt := 56) hx hb dX5_weigh_24 (by decide) (fun hc => ?_) (fun hc => ?_)
  · have hF := oi_t hc hF
    obtain ⟨v56, hv, hF⟩ := ob hF
    refine lv_iinc (v := v56) (lv' := [(4, .int v56), (0, .ref (ad x0)), (1, .int x1), (2, .int x2), (3, .int x3), (5, .int x5)]) hx hb dX5_weigh_56 hl (k := 4) rfl (by rw [← vtI hv]; rfl) (by decide) rfl (fun ls hl => ?_)
    refine lv_goto (tgt := 10) hx hb dX5_weigh_59 (by decide) ?_
    exact Kh1 _ _ _ _ _ _ (Option.some.inj hF).symm _ _ _ M (lv_sub hl [1, 2, 3, 4, 0] rfl)
  · have hF := oi_f hc hF
    refine lv_aload_n hx hb dX5_weigh_27 rfl (lv_at hl 0 rfl) ?_
    obtain ⟨v28, hv, hF⟩ := ob hF
    refine k_getP C0 M.1 hv fl_X5_18 dX5_weigh_28 ?_
    refine lv_iload_n hx hb dX5_weigh_31 rfl (lv_at hl 3 rfl) ?_
    refine lv_iload hx hb dX5_weigh_32 (lv_at hl 4 rfl) ?_
    refine lv_iload hx hb dX5_weigh_34 (lv_at hl 5 rfl) ?_
    obtain ⟨v36, hcl, hF⟩ := ob hF
    refine go_SI (r_S (rest := [.ref (ad v28)]) (As := [.int x3, .int x4, .int x5]) C0 cb_X5_44 (tX5_slotOf l D cy ad hcl) (pre_S C0) hl dX5_weigh_36 rfl (Nat.le_of_ble_eq_true rfl) ⟨rfl, rfl⟩ ⟨Nat.le_of_ble_eq_true rfl, Nat.le_of_ble_eq_true rfl⟩ ⟨Nat.le_of_ble_eq_true rfl, Nat.le_of_ble_eq_true rfl⟩ rfl) ?_
    refine lv_aload_n hx hb dX5_weigh_39 rfl (lv_at hl 0 rfl) ?_
    refine lv_iload_n hx hb dX5_weigh_40 rfl (lv_at hl 3 rfl) ?_
    refine lv_iload hx hb dX5_weigh_41 (lv_at hl 4 rfl) ?_
    refine lv_iload hx hb dX5_weigh_43 (lv_at hl 5 rfl) ?_
    refine lv_iload_n hx hb dX5_weigh_45 rfl (lv_at hl 2 rfl) ?_
    obtain ⟨_, hrec, hF⟩ := ob hF
    obtain ⟨v46, hcl, hF⟩ := ob hF
    refine go_SI (r_V (rest := [.int v36, .ref (ad v28)]) (As := [.int x3, .int x4, .int x5, .int x2]) C0 cb_X5_56 M.1 hrec (tX5_leastCost l D cy ad A hcl) (pre_R C0 M.1) hl dX5_weigh_46 rfl (Nat.le_of_ble_eq_true rfl) ⟨rfl, rfl⟩ ⟨Nat.le_of_ble_eq_true rfl, Nat.le_of_ble_eq_true rfl⟩ ⟨Nat.le_of_ble_eq_true rfl, Nat.le_of_ble_eq_true rfl⟩ rfl) ?_
    obtain ⟨S49, hv, hF⟩ := ob hF
    refine k_st C0 M hv dX5_weigh_49 (fun H locs M => ?_)
    obtain ⟨v50, hv, hF⟩ := ob hF
    refine lv_iinc (v := v50) (lv' := [(5, .int v50), (0, .ref (ad x0)), (1, .int x1), (2, .int x2), (3, .int x3), (4, .int x4)]) hx hb dX5_weigh_50 hl (k := 5) rfl (by rw [← vtI hv]; rfl) (by decide) rfl (fun ls hl => ?_)
    refine lv_goto (tgt := 20) hx hb dX5_weigh_53 (by decide) ?_
    exact Kh2 _ _ _ _ _ _ _ (Option.some.inj hF).symm _ _ _ M (lv_sub hl [1, 2, 3, 4, 5, 0] rfl)
set_option maxHeartbeats 4000000 in
set_option maxRecDepth 100000 in
theorem tX5_weigh (l : Launch) (D : va_G) (cy : Nat → ClassId) (ad : Nat → Nat) (A : Nat → Prop) {S S' : MS} {a0 : Nat} {a1 : Int32} {a2 : Int32} (h : fX5_weigh S a0 a1 a2 = some S') : Met l yX5_weigh [Cond.code yX5_weigh cX5_weigh 6 (none)] rmX5_weigh (PcR D cy ad A S [.ref (ad a0), .int a1, .int a2]) (QcM D cy ad A (m_n S) S' (none)) 0 0 A := by
  refine met_M (by decide +kernel) cw_X5_weigh (Nat.le_of_ble_eq_true rfl) ?_
  intro p e s m args below meth c ls C0 M hr hin hl
  have hl : lv_has ls 6 [(0, .ref (ad a0)), (1, .int a1), (2, .int a2)] := hl
  have key := lim_walk (step := sX5_weigh) (fun (q : ((Nat × Int32 × Int32 × Int32 × MS) ⊕ ((Nat × Int32 × Int32 × Int32 × Int32 × MS) ⊕ (Nat × Int32 × Int32 × Int32 × Int32 × Int32 × MS)))) (r9 : MS) => ∀ (S' : MS), r9 = S' → ((∀ (y0 : Nat) (y1 : Int32) (y2 : Int32) (y3 : Int32) (S2 : MS), q = (.inl (y0, y1, y2, y3, S2)) → ∀ (H1 : Heap) (locs1 : List Loc) (ls1 : Array Slot), ST D cy ad A s.heap (ZN (m_n S) s.heap.size) S2 H1 locs1 → lv_has ls1 6 [(0, .ref (ad y0)), (1, .int y1), (2, .int y2), (3, .int y3)] → W p l e rmX5_weigh s m args below meth c H1 locs1 0 0 (MQ below (QcM D cy ad A (m_n S) S' (none)) args s 0 0 A) (F0 m 2 ls1 [])) ∧ (∀ (y0 : Nat) (y1 : Int32) (y2 : Int32) (y3 : Int32) (y4 : Int32) (S2 : MS), q = (.inr (.inl (y0, y1, y2, y3, y4, S2))) → ∀ (H1 : Heap) (locs1 : List Loc) (ls1 : Array Slot), ST D cy ad A s.heap (ZN (m_n S) s.heap.size) S2 H1 locs1 → lv_has ls1 6 [(0, .ref (ad y0)), (1, .int y1), (2, .int y2), (3, .int y3), (4, .int y4)] → W p l e rmX5_weigh s m args below meth c H1 locs1 0 0 (MQ below (QcM D cy ad A (m_n S) S' (none)) args s 0 0 A) (F0 m 10 ls1 [])) ∧ (∀ (y0 : Nat) (y1 : Int32) (y2 : Int32) (y3 : Int32) (y4 : Int32) (y5 : Int32) (S2 : MS), q = (.inr (.inr (y0, y1, y2, y3, y4, y5, S2))) → ∀ (H1 : Heap) (locs1 : List Loc) (ls1 : Array Slot), ST D cy ad A s.heap (ZN (m_n S) s.heap.size) S2 H1 locs1 → lv_has ls1 6 [(0, .ref (ad y0)), (1, .int y1), (2, .int y2), (3, .int y3), (4, .int y4), (5, .int y5)] → W p l e rmX5_weigh s m args below meth c H1 locs1 0 0 (MQ below (QcM D cy ad A (m_n S) S' (none)) args s 0 0 A) (F0 m 20 ls1 [])))) ?_
  · unfold fX5_weigh at h
    cases hs0 : bX5_weigh_0 S a0 a1 a2 with
    | none => rw [hs0] at h; cases h
    | some out =>
      rw [hs0] at h
      refine wX5_weigh_0 ad A C0 M hr hs0 hl (fun r9 hr9 => ?_) ?_ ?_ ?_
      · subst hr9; exact Option.some.inj h
      · intro y0 y1 y2 y3 y4 hq; subst hq; exact (key _ _ h _ rfl).1 _ _ _ _ _ rfl
      · intro y0 y1 y2 y3 y4 y5 hq; subst hq; exact (key _ _ h _ rfl).2.1 _ _ _ _ _ _ rfl
      · intro y0 y1 y2 y3 y4 y5 y6 hq; subst hq; exact (key _ _ h _ rfl).2.2 _ _ _ _ _ _ _ rfl
  · intro q r9 out hst hre hin9
    intro S' er; subst er
    refine ⟨?_, ?_, ?_⟩
    · intro y0 y1 y2 y3 y4 hq H1 locs1 ls1 M hl
      subst hq
      exact wX5_weigh_2 ad A C0 M hr hst hl hre (fun k0 k1 k2 k3 k4 hk => (hin9 _ hk _ rfl).1 _ _ _ _ _ rfl) (fun k0 k1 k2 k3 k4 k5 hk => (hin9 _ hk _ rfl).2.1 _ _ _ _ _ _ rfl) (fun k0 k1 k2 k3 k4 k5 k6 hk => (hin9 _ hk _ rfl).2.2 _ _ _ _ _ _ _ rfl)
    · intro y0 y1 y2 y3 y4 y5 hq H1 locs1 ls1 M hl
      subst hq
      exact wX5_weigh_10 ad A C0 M hr hst hl hre (fun k0 k1 k2 k3 k4 hk => (hin9 _ hk _ rfl).1 _ _ _ _ _ rfl) (fun k0 k1 k2 k3 k4 k5 hk => (hin9 _ hk _ rfl).2.1 _ _ _ _ _ _ rfl) (fun k0 k1 k2 k3 k4 k5 k6 hk => (hin9 _ hk _ rfl).2.2 _ _ _ _ _ _ _ rfl)
    · intro y0 y1 y2 y3 y4 y5 y6 hq H1 locs1 ls1 M hl
      subst hq
      exact wX5_weigh_20 ad A C0 M hr hst hl hre (fun k0 k1 k2 k3 k4 hk => (hin9 _ hk _ rfl).1 _ _ _ _ _ rfl) (fun k0 k1 k2 k3 k4 k5 hk => (hin9 _ hk _ rfl).2.1 _ _ _ _ _ _ rfl) (fun k0 k1 k2 k3 k4 k5 k6 hk => (hin9 _ hk _ rfl).2.2 _ _ _ _ _ _ _ rfl)
set_option maxHeartbeats 4000000 in
set_option maxRecDepth 100000 in
theorem wX5_bestStart_0 {p : Program} {l : Launch} {e : Env} {s : State} {m : MethodId} {args : Array Value} {below : List Frame} {meth : Method} {c : Code} {D : va_G} {cy : Nat → ClassId} (ad : Nat → Nat) (A : Nat → Prop) {S : MS} {S' : MS} {H : Heap} {locs : List Loc} {n0 : Nat} {r : Int32} {out : ((Nat × Int32 × Int32 × Int32 × Int32 × MS) ⊕ (Int32 × MS))} {ls : Array Slot} {x0 : Nat} {x1 : Int32} {x2 : Int32} (C0 : CX p s m args meth c RX5 cX5_bestStart 7 D cy) (M : ST D cy ad A s.heap (ZN n0 s.heap.size) S H locs) (hr : meth.sig.returnType = some .int) (hF : bX5_bestStart_0 S x0 x1 x2 = some out) (hl : lv_has ls 7 [(0, .ref (ad x0)), (1, .int x1), (2, .int x2)]) (Kr : ∀ r9, out = .inr r9 → r9 = (r, S')) (Kh0 : ∀ (y0 : Nat) (y1 : Int32) (y2 : Int32) (y3 : Int32) (y4 : Int32) (S2 : MS), out = .inl (y0, y1, y2, y3, y4, S2) → ∀ (H1 : Heap) (locs1 : List Loc) (ls1 : Array Slot), ST D cy ad A s.heap (ZN n0 s.heap.size) S2 H1 locs1 → lv_has ls1 7 [(0, .ref (ad y0)), (1, .int y1), (3, .int y2), (4, .int y3), (5, .int y4)] → W p l e rmX5_bestStart s m args below meth c H1 locs1 0 0 (MQ below (QcM D cy ad A n0 S' (some (.int r))) args s 0 0 A) (F0 m 17 ls1 [])) : W p l e rmX5_bestStart s m args below meth c H locs 0 0 (MQ below (QcM D cy ad A n0 S' (some (.int r))) args s 0 0 A) (F0 m 0 ls []) := by
  unfold bX5_bestStart_0 at hF
  obtain ⟨hx, hb, -, hown, -, hts, -⟩ := id C0
  refine lv_aload_n hx hb dX5_bestStart_0 rfl (lv_at hl 0 rfl) ?_
  refine lv_iload_n hx hb dX5_bestStart_1 rfl (lv_at hl 1 rfl) ?_
  refine lv_iload_n hx hb dX5_bestStart_2 rfl (lv_at hl 2 rfl) ?_
  obtain ⟨_, hrec, hF⟩ := ob hF
  obtain ⟨S3, hcl, hF⟩ := ob hF
  refine go_MV (r_V (rest := []) (As := [.int x1, .int x2]) C0 cb_X5_40 M.1 hrec (tX5_weigh l D cy ad A hcl) (pre_R C0 M.1) hl dX5_bestStart_3 rfl (Nat.le_of_ble_eq_true rfl) ⟨rfl, rfl⟩ ⟨Nat.le_of_ble_eq_true rfl, Nat.le_of_ble_eq_true rfl⟩ ⟨Nat.le_of_ble_eq_true rfl, Nat.le_of_ble_eq_true rfl⟩ rfl) M (fun H locs M => ?_)
  refine lv_bipush (v := (-9 : Int32)) hx hb dX5_bestStart_6 (by decide) ?_
  refine lv_istore_n (lv' := [(3, .int (-9 : Int32)), (0, .ref (ad x0)), (1, .int x1), (2, .int x2)]) hx hb dX5_bestStart_8 rfl hl (by decide) rfl (fun ls hl => ?_)
  refine lv_sipush (v := (1000 : Int32)) hx hb dX5_bestStart_9 (by decide) ?_
  refine lv_istore (lv' := [(4, .int (1000 : Int32)), (3, .int (-9 : Int32)), (0, .ref (ad x0)), (1, .int x1), (2, .int x2)]) hx hb dX5_bestStart_12 hl (by decide) rfl (fun ls hl => ?_)
  refine lv_iconst (v := (0 : Int32)) hx hb dX5_bestStart_14 (by decide) ?_
  refine lv_istore (lv' := [(5, .int (0 : Int32)), (4, .int (1000 : Int32)), (3, .int (-9 : Int32)), (0, .ref (ad x0)), (1, .int x1), (2, .int x2)]) hx hb dX5_bestStart_15 hl (by decide) rfl (fun ls hl => ?_)
  exact Kh0 _ _ _ _ _ _ (Option.some.inj hF).symm _ _ _ M (lv_sub hl [3, 4, 2, 1, 0] rfl)
set_option maxHeartbeats 4000000 in
set_option maxRecDepth 100000 in
theorem wX5_bestStart_52 {p : Program} {l : Launch} {e : Env} {s : State} {m : MethodId} {args : Array Value} {below : List Frame} {meth : Method} {c : Code} {D : va_G} {cy : Nat → ClassId} (ad : Nat → Nat) (A : Nat → Prop) {S : MS} {S' : MS} {H : Heap} {locs : List Loc} {n0 : Nat} {r : Int32} {out : ((Nat × Int32 × Int32 × Int32 × Int32 × MS) ⊕ (Int32 × MS))} {ls : Array Slot} {x0 : Nat} {x1 : Int32} {x3 : Int32} {x4 : Int32} {x5 : Int32} (C0 : CX p s m args meth c RX5 cX5_bestStart 7 D cy) (M : ST D cy ad A s.heap (ZN n0 s.heap.size) S H locs) (hr : meth.sig.returnType = some .int) (hF : bX5_bestStart_52 S x0 x1 x3 x4 x5 = some out) (hl : lv_has ls 7 [(0, .ref (ad x0)), (1, .int x1), (3, .int x3), (4, .int x4), (5, .int x5)]) (Kr : ∀ r9, out = .inr r9 → r9 = (r, S')) (Kh0 : ∀ (y0 : Nat) (y1 : Int32) (y2 : Int32) (y3 : Int32) (y4 : Int32) (S2 : MS), out = .inl (y0, y1, y2, y3, y4, S2) → ∀ (H1 : Heap) (locs1 : List Loc) (ls1 : Array Slot), ST D cy ad A s.heap (ZN n0 s.heap.size) S2 H1 locs1 → lv_has ls1 7 [(0, .ref (ad y0)), (1, .int y1), (3, .int y2), (4, .int y3), (5, .int y4)] → W p l e rmX5_bestStart s m args below meth c H1 locs1 0 0 (MQ below (QcM D cy ad A n0 S' (some (.int r))) args s 0 0 A) (F0 m 17 ls1 [])) : W p l e rmX5_bestStart s m args below meth c H locs 0 0 (MQ below (QcM D cy ad A n0 S' (some (.int r))) args s 0 0 A) (F0 m 52 ls []) := by
  unfold bX5_bestStart_52 at hF
  obtain ⟨hx, hb, -, hown, -, hts, -⟩ := id C0
  obtain ⟨v52, hv, hF⟩ := ob hF
  refine lv_iinc (v := v52) (lv' := [(5, .int v52), (0, .ref (ad x0)), (1, .int x1), (3, .int x3), (4, .int x4)]) hx hb dX5_bestStart_52 hl (k := 4) rfl (by rw [← vtI hv]; rfl) (by decide) rfl (fun ls hl => ?_)
  refine lv_goto (tgt := 17) hx hb dX5_bestStart_55 (by decide) ?_
  exact Kh0 _ _ _ _ _ _ (Option.some.inj hF).symm _ _ _ M (lv_sub hl [1, 2, 3, 4, 0] rfl)
set_option maxHeartbeats 4000000 in
set_option maxRecDepth 100000 in
theorem wX5_bestStart_17 {p : Program} {l : Launch} {e : Env} {s : State} {m : MethodId} {args : Array Value} {below : List Frame} {meth : Method} {c : Code} {D : va_G} {cy : Nat → ClassId} (ad : Nat → Nat) (A : Nat → Prop) {S : MS} {S' : MS} {H : Heap} {locs : List Loc} {n0 : Nat} {r : Int32} {out : ((Nat × Int32 × Int32 × Int32 × Int32 × MS) ⊕ (Int32 × MS))} {ls : Array Slot} {x0 : Nat} {x1 : Int32} {x3 : Int32} {x4 : Int32} {x5 : Int32} (C0 : CX p s m args meth c RX5 cX5_bestStart 7 D cy) (M : ST D cy ad A s.heap (ZN n0 s.heap.size) S H locs) (hr : meth.sig.returnType = some .int) (hF : bX5_bestStart_17 S x0 x1 x3 x4 x5 = some out) (hl : lv_has ls 7 [(0, .ref (ad x0)), (1, .int x1), (3, .int x3), (4, .int x4), (5, .int x5)]) (Kr : ∀ r9, out = .inr r9 → r9 = (r, S')) (Kh0 : ∀ (y0 : Nat) (y1 : Int32) (y2 : Int32) (y3 : Int32) (y4 : Int32) (S2 : MS), out = .inl (y0, y1, y2, y3, y4, S2) → ∀ (H1 : Heap) (locs1 : List Loc) (ls1 : Array Slot), ST D cy ad A s.heap (ZN n0 s.heap.size) S2 H1 locs1 → lv_has ls1 7 [(0, .ref (ad y0)), (1, .int y1), (3, .int y2), (4, .int y3), (5, .int y4)] → W p l e rmX5_bestStart s m args below meth c H1 locs1 0 0 (MQ below (QcM D cy ad A n0 S' (some (.int r))) args s 0 0 A) (F0 m 17 ls1 [])) : W p l e rmX5_bestStart s m args below meth c H locs 0 0 (MQ below (QcM D cy ad A n0 S' (some (.int r))) args s 0 0 A) (F0 m 17 ls []) := by
  unfold bX5_bestStart_17 at hF
  obtain ⟨hx, hb, -, hown, -, hts, -⟩ := id C0
  refine lv_iload hx hb dX5_bestStart_17 (lv_at hl 4 rfl) ?_
  refine lv_bipush (v := (12 : Int32)) hx hb dX5_bestStart_19 (by decide) ?_
  refine lv_icmp_ge (tgt := 58) hx hb dX5_bestStart_21 (by decide) (fun hc => ?_) (fun hc => ?_)
  · have hF := oi_t hc hF
    refine lv_iload_n hx hb dX5_bestStart_58 rfl (lv_at hl 2 rfl) ?_
    obtain ⟨rfl, rfl⟩ := Prod.mk.inj (Kr _ (Option.some.inj hF).symm)
    exact rt_MI C0 M hr dX5_bestStart_59
  · have hF := oi_f hc hF
    refine lv_aload_n hx hb dX5_bestStart_24 rfl (lv_at hl 0 rfl) ?_
    obtain ⟨v25, hv, hF⟩ := ob hF
    refine k_getP C0 M.1 hv fl_X5_18 dX5_bestStart_25 ?_
    refine lv_iload_n hx hb dX5_bestStart_28 rfl (lv_at hl 1 rfl) ?_
    refine lv_iload hx hb dX5_bestStart_29 (lv_at hl 4 rfl) ?_
    refine lv_iconst (v := (5 : Int32)) hx hb dX5_bestStart_31 (by decide) ?_
    obtain ⟨v32, hcl, hF⟩ := ob hF
    refine go_SI (r_S (rest := [.ref (ad v25)]) (As := [.int x1, .int x5, .int (5 : Int32)]) C0 cb_X5_44 (tX5_slotOf l D cy ad hcl) (pre_S C0) hl dX5_bestStart_32 rfl (Nat.le_of_ble_eq_true rfl) ⟨rfl, rfl⟩ ⟨Nat.le_of_ble_eq_true rfl, Nat.le_of_ble_eq_true rfl⟩ ⟨Nat.le_of_ble_eq_true rfl, Nat.le_of_ble_eq_true rfl⟩ rfl) ?_
    obtain ⟨v35, hv, hF⟩ := ob hF
    refine k_ld C0 M.1 hv dX5_bestStart_35 ?_
    refine lv_istore (lv' := [(6, .int v35), (0, .ref (ad x0)), (1, .int x1), (3, .int x3), (4, .int x4), (5, .int x5)]) hx hb dX5_bestStart_36 hl (by decide) rfl (fun ls hl => ?_)
    refine lv_iload hx hb dX5_bestStart_38 (lv_at hl 0 rfl) ?_
    refine lv_iload hx hb dX5_bestStart_40 (lv_at hl 4 rfl) ?_
    refine lv_icmp_ge (tgt := 52) hx hb dX5_bestStart_42 (by decide) (fun hc => ?_) (fun hc => ?_)
    · have hF := oi_t hc hF
      exact wX5_bestStart_52 ad A C0 M hr hF (lv_sub hl [1, 2, 3, 4, 5] rfl) Kr Kh0
    · have hF := oi_f hc hF
      refine lv_iload hx hb dX5_bestStart_45 (lv_at hl 5 rfl) ?_
      refine lv_istore_n (lv' := [(3, .int x5), (6, .int v35), (0, .ref (ad x0)), (1, .int x1), (4, .int x4), (5, .int x5)]) hx hb dX5_bestStart_47 rfl hl (by decide) rfl (fun ls hl => ?_)
      refine lv_iload hx hb dX5_bestStart_48 (lv_at hl 1 rfl) ?_
      refine lv_istore (lv' := [(4, .int v35), (3, .int x5), (6, .int v35), (0, .ref (ad x0)), (1, .int x1), (5, .int x5)]) hx hb dX5_bestStart_50 hl (by decide) rfl (fun ls hl => ?_)
      exact wX5_bestStart_52 ad A C0 M hr hF (lv_sub hl [3, 4, 1, 0, 5] rfl) Kr Kh0
set_option maxHeartbeats 4000000 in
set_option maxRecDepth 100000 in
theorem tX5_bestStart (l : Launch) (D : va_G) (cy : Nat → ClassId) (ad : Nat → Nat) (A : Nat → Prop) {S S' : MS} {a0 : Nat} {a1 : Int32} {a2 : Int32} {r : Int32} (h : fX5_bestStart S a0 a1 a2 = some (r, S')) : Met l yX5_bestStart [Cond.code yX5_bestStart cX5_bestStart 7 (some .int)] rmX5_bestStart (PcR D cy ad A S [.ref (ad a0), .int a1, .int a2]) (QcM D cy ad A (m_n S) S' (some (.int r))) 0 0 A := by
  refine met_M (by decide +kernel) cw_X5_bestStart (Nat.le_of_ble_eq_true rfl) ?_
  intro p e s m args below meth c ls C0 M hr hin hl
  have hl : lv_has ls 7 [(0, .ref (ad a0)), (1, .int a1), (2, .int a2)] := hl
  have key := lim_walk (step := sX5_bestStart) (fun (q : (Nat × Int32 × Int32 × Int32 × Int32 × MS)) (r9 : (Int32 × MS)) => ∀ (r : Int32) (S' : MS), r9 = (r, S') → ((∀ (y0 : Nat) (y1 : Int32) (y2 : Int32) (y3 : Int32) (y4 : Int32) (S2 : MS), q = (y0, y1, y2, y3, y4, S2) → ∀ (H1 : Heap) (locs1 : List Loc) (ls1 : Array Slot), ST D cy ad A s.heap (ZN (m_n S) s.heap.size) S2 H1 locs1 → lv_has ls1 7 [(0, .ref (ad y0)), (1, .int y1), (3, .int y2), (4, .int y3), (5, .int y4)] → W p l e rmX5_bestStart s m args below meth c H1 locs1 0 0 (MQ below (QcM D cy ad A (m_n S) S' (some (.int r))) args s 0 0 A) (F0 m 17 ls1 [])))) ?_
  · unfold fX5_bestStart at h
    cases hs0 : bX5_bestStart_0 S a0 a1 a2 with
    | none => rw [hs0] at h; cases h
    | some out =>
      rw [hs0] at h
      refine wX5_bestStart_0 ad A C0 M hr hs0 hl (fun r9 hr9 => ?_) ?_
      · subst hr9; exact Option.some.inj h
      · intro y0 y1 y2 y3 y4 y5 hq; subst hq; exact (key _ _ h _ _ rfl) _ _ _ _ _ _ rfl
  · intro q r9 out hst hre hin9
    intro r S' er; subst er
    refine ?_
    · intro y0 y1 y2 y3 y4 y5 hq H1 locs1 ls1 M hl
      subst hq
      exact wX5_bestStart_17 ad A C0 M hr hst hl hre (fun k0 k1 k2 k3 k4 k5 hk => (hin9 _ hk _ _ rfl) _ _ _ _ _ _ rfl)
set_option maxHeartbeats 4000000 in
set_option maxRecDepth 100000 in
theorem wX3_init_0 {p : Program} {l : Launch} {e : Env} {s : State} {m : MethodId} {args : Array Value} {below : List Frame} {meth : Method} {c : Code} {D : va_G} {cy : Nat → ClassId} (ad : Nat → Nat) (A : Nat → Prop) {S : MS} {S' : MS} {H : Heap} {locs : List Loc} {n0 : Nat} {ls : Array Slot} {x0 : Nat} {x1 : Int32} {x2 : Int32} {x3 : Int32} {x4 : Int32} {x5 : Nat} (C0 : CX p s m args meth c RX3 cX3_init 6 D cy) (M : ST D cy ad A s.heap (ZN n0 s.heap.size) S H locs) (hr : meth.sig.returnType = none) (hin : meth.name = "<init>") (hF : bX3_init_0 S x0 x1 x2 x3 x4 x5 = some S') (hl : lv_has ls 6 [(0, .ref (ad x0)), (1, .int x1), (2, .int x2), (3, .int x3), (4, .int x4), (5, .ref (ad x5))]) : W p l e rmX3_init s m args below meth c H locs 0 0 (MQ below (QcM D cy ad A n0 S' (none)) args s 0 0 A) (F0 m 0 ls []) := by
  unfold bX3_init_0 at hF
  obtain ⟨hx, hb, -, hown, -, hts, -⟩ := id C0
  refine lv_aload_n hx hb dX3_init_0 rfl (lv_at hl 0 rfl) ?_
  refine W.objInit hx hb hown (hts _ (uw_of 801 (by decide +kernel) rfl)) (hts _ (uw_of 111 (by decide +kernel) rfl)) (hts _ (uw_of 112 (by decide +kernel) rfl)) rfl (by rw [C0.2.2.1]; exact hl.1) rfl dX3_init_1 (Nat.le_of_ble_eq_true rfl) (Nat.le_of_ble_eq_true rfl) ?_
  refine W.eq (g2 := F0 m 4 ls []) rfl ?_
  refine lv_aload_n hx hb dX3_init_4 rfl (lv_at hl 0 rfl) ?_
  refine lv_iload_n hx hb dX3_init_5 rfl (lv_at hl 1 rfl) ?_
  obtain ⟨S6, hv, hF⟩ := ob hF
  refine k_sIF C0 M hin hv fl_X3_7 dX3_init_6 (fun H locs M => ?_)
  refine lv_aload_n hx hb dX3_init_9 rfl (lv_at hl 0 rfl) ?_
  refine lv_iload_n hx hb dX3_init_10 rfl (lv_at hl 2 rfl) ?_
  obtain ⟨S11, hv, hF⟩ := ob hF
  refine k_sIF C0 M hin hv fl_X3_13 dX3_init_11 (fun H locs M => ?_)
  refine lv_aload_n hx hb dX3_init_14 rfl (lv_at hl 0 rfl) ?_
  refine lv_iload_n hx hb dX3_init_15 rfl (lv_at hl 3 rfl) ?_
  obtain ⟨S16, hv, hF⟩ := ob hF
  refine k_sIF C0 M hin hv fl_X3_16 dX3_init_16 (fun H locs M => ?_)
  refine lv_aload_n hx hb dX3_init_19 rfl (lv_at hl 0 rfl) ?_
  refine lv_iload hx hb dX3_init_20 (lv_at hl 4 rfl) ?_
  obtain ⟨S22, hv, hF⟩ := ob hF
  refine k_sIF C0 M hin hv fl_X3_19 dX3_init_22 (fun H locs M => ?_)
  refine lv_aload_n hx hb dX3_init_25 rfl (lv_at hl 0 rfl) ?_
  refine lv_aload hx hb dX3_init_26 (lv_at hl 5 rfl) ?_
  obtain ⟨S28, hv, hF⟩ := ob hF
  refine k_sPF C0 M hin rfl hv fl_X3_22 dX3_init_28 (fun H locs M => ?_)
  obtain rfl := (Option.some.inj hF)
  exact rt_MV C0 M hr dX3_init_31
set_option maxHeartbeats 4000000 in
set_option maxRecDepth 100000 in
theorem tX3_init (l : Launch) (D : va_G) (cy : Nat → ClassId) (ad : Nat → Nat) (A : Nat → Prop) {S S' : MS} {a0 : Nat} {a1 : Int32} {a2 : Int32} {a3 : Int32} {a4 : Int32} {a5 : Nat} (h : fX3_init S a0 a1 a2 a3 a4 a5 = some S') : Met l yX3_init [Cond.code yX3_init cX3_init 6 (none)] rmX3_init (PcR D cy ad A S [.ref (ad a0), .int a1, .int a2, .int a3, .int a4, .ref (ad a5)]) (QcM D cy ad A (m_n S) S' (none)) 0 0 A := by
  refine met_M (by decide +kernel) cw_X3_init (Nat.le_of_ble_eq_true rfl) ?_
  intro p e s m args below meth c ls C0 M hr hin hl
  have hl : lv_has ls 6 [(0, .ref (ad a0)), (1, .int a1), (2, .int a2), (3, .int a3), (4, .int a4), (5, .ref (ad a5))] := hl
  exact wX3_init_0 ad A C0 M hr hin h hl
set_option maxHeartbeats 4000000 in
set_option maxRecDepth 100000 in
theorem wX5_bestChange_0 {p : Program} {l : Launch} {e : Env} {s : State} {m : MethodId} {args : Array Value} {below : List Frame} {meth : Method} {c : Code} {D : va_G} {cy : Nat → ClassId} (ad : Nat → Nat) (A : Nat → Prop) {S : MS} {r : Int32} {out : ((Nat × Int32 × Int32 × Int32 × Int32 × Int32 × Int32) ⊕ Int32)} {ls : Array Slot} {x0 : Nat} {x1 : Int32} {x2 : Int32} {x3 : Int32} (C0 : CX p s m args meth c RX5 cX5_bestChange 8 D cy) (M : MW D cy ad A S s.heap) (hr : meth.sig.returnType = some .int) (hF : bX5_bestChange_0 S x0 x1 x2 x3 = some out) (hl : lv_has ls 8 [(0, .ref (ad x0)), (1, .int x1), (2, .int x2), (3, .int x3)]) (Kr : ∀ r9, out = .inr r9 → r9 = r) (Kh0 : ∀ (y0 : Nat) (y1 : Int32) (y2 : Int32) (y3 : Int32) (y4 : Int32) (y5 : Int32) (y6 : Int32), out = .inl (y0, y1, y2, y3, y4, y5, y6) → ∀ (ls1 : Array Slot), lv_has ls1 8 [(0, .ref (ad y0)), (1, .int y1), (2, .int y2), (3, .int y3), (4, .int y4), (5, .int y5), (6, .int y6)] → W p l e rmX5_bestChange s m args below meth c s.heap [] 0 0 (MQ below (QcS (some (.int r))) args s 0 0 (fun _ => False)) (F0 m 11 ls1 [])) : W p l e rmX5_bestChange s m args below meth c s.heap [] 0 0 (MQ below (QcS (some (.int r))) args s 0 0 (fun _ => False)) (F0 m 0 ls []) := by
  unfold bX5_bestChange_0 at hF
  obtain ⟨hx, hb, -, hown, -, hts, -⟩ := id C0
  refine lv_iconst (v := (2 : Int32)) hx hb dX5_bestChange_0 (by decide) ?_
  refine lv_istore (lv' := [(4, .int (2 : Int32)), (0, .ref (ad x0)), (1, .int x1), (2, .int x2), (3, .int x3)]) hx hb dX5_bestChange_1 hl (by decide) rfl (fun ls hl => ?_)
  refine lv_sipush (v := (1000 : Int32)) hx hb dX5_bestChange_3 (by decide) ?_
  refine lv_istore (lv' := [(5, .int (1000 : Int32)), (4, .int (2 : Int32)), (0, .ref (ad x0)), (1, .int x1), (2, .int x2), (3, .int x3)]) hx hb dX5_bestChange_6 hl (by decide) rfl (fun ls hl => ?_)
  refine lv_iconst (v := (0 : Int32)) hx hb dX5_bestChange_8 (by decide) ?_
  refine lv_istore (lv' := [(6, .int (0 : Int32)), (5, .int (1000 : Int32)), (4, .int (2 : Int32)), (0, .ref (ad x0)), (1, .int x1), (2, .int x2), (3, .int x3)]) hx hb dX5_bestChange_9 hl (by decide) rfl (fun ls hl => ?_)
  exact Kh0 _ _ _ _ _ _ _ (Option.some.inj hF).symm _ (lv_sub hl [3, 4, 5, 6, 2, 1, 0] rfl)
set_option maxHeartbeats 4000000 in
set_option maxRecDepth 100000 in
theorem wX5_bestChange_43 {p : Program} {l : Launch} {e : Env} {s : State} {m : MethodId} {args : Array Value} {below : List Frame} {meth : Method} {c : Code} {D : va_G} {cy : Nat → ClassId} (ad : Nat → Nat) (A : Nat → Prop) {S : MS} {r : Int32} {out : ((Nat × Int32 × Int32 × Int32 × Int32 × Int32 × Int32) ⊕ Int32)} {ls : Array Slot} {x0 : Nat} {x1 : Int32} {x2 : Int32} {x3 : Int32} {x4 : Int32} {x5 : Int32} {x6 : Int32} (C0 : CX p s m args meth c RX5 cX5_bestChange 8 D cy) (M : MW D cy ad A S s.heap) (hr : meth.sig.returnType = some .int) (hF : bX5_bestChange_43 S x0 x1 x2 x3 x4 x5 x6 = some out) (hl : lv_has ls 8 [(0, .ref (ad x0)), (1, .int x1), (2, .int x2), (3, .int x3), (4, .int x4), (5, .int x5), (6, .int x6)]) (Kr : ∀ r9, out = .inr r9 → r9 = r) (Kh0 : ∀ (y0 : Nat) (y1 : Int32) (y2 : Int32) (y3 : Int32) (y4 : Int32) (y5 : Int32) (y6 : Int32), out = .inl (y0, y1, y2, y3, y4, y5, y6) → ∀ (ls1 : Array Slot), lv_has ls1 8 [(0, .ref (ad y0)), (1, .int y1), (2, .int y2), (3, .int y3), (4, .int y4), (5, .int y5), (6, .int y6)] → W p l e rmX5_bestChange s m args below meth c s.heap [] 0 0 (MQ below (QcS (some (.int r))) args s 0 0 (fun _ => False)) (F0 m 11 ls1 [])) : W p l e rmX5_bestChange s m args below meth c s.heap [] 0 0 (MQ below (QcS (some (.int r))) args s 0 0 (fun _ => False)) (F0 m 43 ls []) := by
  unfold bX5_bestChange_43 at hF
  obtain ⟨hx, hb, -, hown, -, hts, -⟩ := id C0
  obtain ⟨v43, hv, hF⟩ := ob hF
  refine lv_iinc (v := v43) (lv' := [(6, .int v43), (0, .ref (ad x0)), (1, .int x1), (2, .int x2), (3, .int x3), (4, .int x4), (5, .int x5)]) hx hb dX5_bestChange_43 hl (k := 6) rfl (by rw [← vtI hv]; rfl) (by decide) rfl (fun ls hl => ?_)
  refine lv_goto (tgt := 11) hx hb dX5_bestChange_46 (by decide) ?_
  exact Kh0 _ _ _ _ _ _ _ (Option.some.inj hF).symm _ (lv_sub hl [1, 2, 3, 4, 5, 6, 0] rfl)
set_option maxHeartbeats 4000000 in
set_option maxRecDepth 100000 in
theorem wX5_bestChange_11 {p : Program} {l : Launch} {e : Env} {s : State} {m : MethodId} {args : Array Value} {below : List Frame} {meth : Method} {c : Code} {D : va_G} {cy : Nat → ClassId} (ad : Nat → Nat) (A : Nat → Prop) {S : MS} {r : Int32} {out : ((Nat × Int32 × Int32 × Int32 × Int32 × Int32 × Int32) ⊕ Int32)} {ls : Array Slot} {x0 : Nat} {x1 : Int32} {x2 : Int32} {x3 : Int32} {x4 : Int32} {x5 : Int32} {x6 : Int32} (C0 : CX p s m args meth c RX5 cX5_bestChange 8 D cy) (M : MW D cy ad A S s.heap) (hr : meth.sig.returnType = some .int) (hF : bX5_bestChange_11 S x0 x1 x2 x3 x4 x5 x6 = some out) (hl : lv_has ls 8 [(0, .ref (ad x0)), (1, .int x1), (2, .int x2), (3, .int x3), (4, .int x4), (5, .int x5), (6, .int x6)]) (Kr : ∀ r9, out = .inr r9 → r9 = r) (Kh0 : ∀ (y0 : Nat) (y1 : Int32) (y2 : Int32) (y3 : Int32) (y4 : Int32) (y5 : Int32) (y6 : Int32), out = .inl (y0, y1, y2, y3, y4, y5, y6) → ∀ (ls1 : Array Slot), lv_has ls1 8 [(0, .ref (ad y0)), (1, .int y1), (2, .int y2), (3, .int y3), (4, .int y4), (5, .int y5), (6, .int y6)] → W p l e rmX5_bestChange s m args below meth c s.heap [] 0 0 (MQ below (QcS (some (.int r))) args s 0 0 (fun _ => False)) (F0 m 11 ls1 [])) : W p l e rmX5_bestChange s m args below meth c s.heap [] 0 0 (MQ below (QcS (some (.int r))) args s 0 0 (fun _ => False)) (F0 m 11 ls []) := by
  unfold bX5_bestChange_11 at hF
  obtain ⟨hx, hb, -, hown, -, hts, -⟩ := id C0
  refine lv_iload hx hb dX5_bestChange_11 (lv_at hl 6 rfl) ?_
  refine lv_iconst (v := (5 : Int32)) hx hb dX5_bestChange_13 (by decide) ?_
  refine lv_icmp_ge (tgt := 49) hx hb dX5_bestChange_14 (by decide) (fun hc => ?_) (fun hc => ?_)
  · have hF := oi_t hc hF
    refine lv_iload hx hb dX5_bestChange_49 (lv_at hl 4 rfl) ?_
    obtain rfl := (Kr _ (Option.some.inj hF).symm)
    exact rt_SI C0 hr dX5_bestChange_51
  · have hF := oi_f hc hF
    refine lv_aload_n hx hb dX5_bestChange_17 rfl (lv_at hl 0 rfl) ?_
    refine lv_iload_n hx hb dX5_bestChange_18 rfl (lv_at hl 1 rfl) ?_
    refine lv_iload_n hx hb dX5_bestChange_19 rfl (lv_at hl 2 rfl) ?_
    refine lv_iload_n hx hb dX5_bestChange_20 rfl (lv_at hl 3 rfl) ?_
    refine lv_iload hx hb dX5_bestChange_21 (lv_at hl 6 rfl) ?_
    obtain ⟨_, hrec, hF⟩ := ob hF
    obtain ⟨v23, hcl, hF⟩ := ob hF
    refine go_SI (r_V (rest := []) (As := [.int x1, .int x2, .int x3, .int x6]) C0 cb_X5_64 M hrec (tX5_costBy l D cy ad A hcl) (pre_R C0 M) hl dX5_bestChange_23 rfl (Nat.le_of_ble_eq_true rfl) ⟨rfl, rfl⟩ ⟨Nat.le_of_ble_eq_true rfl, Nat.le_of_ble_eq_true rfl⟩ ⟨Nat.le_of_ble_eq_true rfl, Nat.le_of_ble_eq_true rfl⟩ rfl) ?_
    refine lv_istore (lv' := [(7, .int v23), (0, .ref (ad x0)), (1, .int x1), (2, .int x2), (3, .int x3), (4, .int x4), (5, .int x5), (6, .int x6)]) hx hb dX5_bestChange_26 hl (by decide) rfl (fun ls hl => ?_)
    refine lv_iload hx hb dX5_bestChange_28 (lv_at hl 0 rfl) ?_
    refine lv_iload hx hb dX5_bestChange_30 (lv_at hl 6 rfl) ?_
    refine lv_icmp_ge (tgt := 43) hx hb dX5_bestChange_32 (by decide) (fun hc => ?_) (fun hc => ?_)
    · have hF := oi_t hc hF
      exact wX5_bestChange_43 ad A C0 M hr hF (lv_sub hl [1, 2, 3, 4, 5, 6, 7] rfl) Kr Kh0
    · have hF := oi_f hc hF
      refine lv_iload hx hb dX5_bestChange_35 (lv_at hl 7 rfl) ?_
      refine lv_istore (lv' := [(4, .int x6), (7, .int v23), (0, .ref (ad x0)), (1, .int x1), (2, .int x2), (3, .int x3), (5, .int x5), (6, .int x6)]) hx hb dX5_bestChange_37 hl (by decide) rfl (fun ls hl => ?_)
      refine lv_iload hx hb dX5_bestChange_39 (lv_at hl 1 rfl) ?_
      refine lv_istore (lv' := [(5, .int v23), (4, .int x6), (7, .int v23), (0, .ref (ad x0)), (1, .int x1), (2, .int x2), (3, .int x3), (6, .int x6)]) hx hb dX5_bestChange_41 hl (by decide) rfl (fun ls hl => ?_)
      exact wX5_bestChange_43 ad A C0 M hr hF (lv_sub hl [3, 4, 5, 6, 1, 0, 7] rfl) Kr Kh0
set_option maxHeartbeats 4000000 in
set_option maxRecDepth 100000 in
theorem tX5_bestChange (l : Launch) (D : va_G) (cy : Nat → ClassId) (ad : Nat → Nat) (A : Nat → Prop) {S : MS} {a0 : Nat} {a1 : Int32} {a2 : Int32} {a3 : Int32} {r : Int32} (h : fX5_bestChange S a0 a1 a2 a3 = some r) : Met l yX5_bestChange [Cond.code yX5_bestChange cX5_bestChange 8 (some .int)] rmX5_bestChange (PcR D cy ad A S [.ref (ad a0), .int a1, .int a2, .int a3]) (QcS (some (.int r))) 0 0 (fun _ => False) := by
  refine met_R (by decide +kernel) cw_X5_bestChange (Nat.le_of_ble_eq_true rfl) ?_
  intro p e s m args below meth c ls C0 M hr hl
  have hl : lv_has ls 8 [(0, .ref (ad a0)), (1, .int a1), (2, .int a2), (3, .int a3)] := hl
  have key := lim_walk (step := sX5_bestChange S) (fun (q : (Nat × Int32 × Int32 × Int32 × Int32 × Int32 × Int32)) (r9 : Int32) => ∀ (r : Int32), r9 = r → ((∀ (y0 : Nat) (y1 : Int32) (y2 : Int32) (y3 : Int32) (y4 : Int32) (y5 : Int32) (y6 : Int32), q = (y0, y1, y2, y3, y4, y5, y6) → ∀ (ls1 : Array Slot), lv_has ls1 8 [(0, .ref (ad y0)), (1, .int y1), (2, .int y2), (3, .int y3), (4, .int y4), (5, .int y5), (6, .int y6)] → W p l e rmX5_bestChange s m args below meth c s.heap [] 0 0 (MQ below (QcS (some (.int r))) args s 0 0 (fun _ => False)) (F0 m 11 ls1 [])))) ?_
  · unfold fX5_bestChange at h
    cases hs0 : bX5_bestChange_0 S a0 a1 a2 a3 with
    | none => rw [hs0] at h; cases h
    | some out =>
      rw [hs0] at h
      refine wX5_bestChange_0 ad A C0 M hr hs0 hl (fun r9 hr9 => ?_) ?_
      · subst hr9; exact Option.some.inj h
      · intro y0 y1 y2 y3 y4 y5 y6 hq; subst hq; exact (key _ _ h _ rfl) _ _ _ _ _ _ _ rfl
  · intro q r9 out hst hre hin9
    intro r er; subst er
    refine ?_
    · intro y0 y1 y2 y3 y4 y5 y6 hq ls1 hl
      subst hq
      exact wX5_bestChange_11 ad A C0 M hr hst hl hre (fun k0 k1 k2 k3 k4 k5 k6 hk => (hin9 _ hk _ rfl) _ _ _ _ _ _ _ rfl)
set_option maxHeartbeats 4000000 in
set_option maxRecDepth 100000 in
theorem wX5_drawn_0 {p : Program} {l : Launch} {e : Env} {s : State} {m : MethodId} {args : Array Value} {below : List Frame} {meth : Method} {c : Code} {D : va_G} {cy : Nat → ClassId} (ad : Nat → Nat) (A : Nat → Prop) {S : MS} {S' : MS} {H : Heap} {locs : List Loc} {K0 : Nat} {r : Nat} {out : ((Nat × Int32 × Int32 × Int32 × Int32 × Nat × Int32 × Int32 × Int32 × MS) ⊕ (Nat × MS))} {ls : Array Slot} {x0 : Nat} {x1 : Int32} {x2 : Int32} {x3 : Int32} {x4 : Int32} (C0 : CX p s m args meth c RX5 cX5_drawn 9 D cy) (hA : ∀ k, 0 < k → A (ad k)) (hs : ∀ k, K0 ≤ k → ad (k + 1) + 1 = ad (k + 2)) (hE : EX ad A s) (M : ST D cy ad A s.heap (ZA ad K0) S H locs) (hr : meth.sig.returnType = (some (.object "ChartRoom$Front"))) (hF : bX5_drawn_0 S x0 x1 x2 x3 x4 = some out) (hl : lv_has ls 9 [(0, .ref (ad x0)), (1, .int x1), (2, .int x2), (3, .int x3), (4, .int x4)]) (Kr : ∀ r9, out = .inr r9 → r9 = (r, S')) (Kh0 : ∀ (y0 : Nat) (y1 : Int32) (y2 : Int32) (y3 : Int32) (y4 : Int32) (y5 : Nat) (y6 : Int32) (y7 : Int32) (y8 : Int32) (S2 : MS), out = .inl (y0, y1, y2, y3, y4, y5, y6, y7, y8, S2) → ∀ (H1 : Heap) (locs1 : List Loc) (ls1 : Array Slot), ST D cy ad A s.heap (ZA ad K0) S2 H1 locs1 → lv_has ls1 9 [(0, .ref (ad y0)), (1, .int y1), (2, .int y2), (3, .int y3), (4, .int y4), (5, .ref (ad y5)), (6, .int y6), (7, .int y7), (8, .int y8)] → W p l e rmX5_drawn s m args below meth c H1 locs1 1 12 (MQ below (QcA D cy ad A K0 S' (some (.ref (ad r)))) args s 2 17 A) (F0 m 22 ls1 [])) : W p l e rmX5_drawn s m args below meth c H locs 0 0 (MQ below (QcA D cy ad A K0 S' (some (.ref (ad r)))) args s 2 17 A) (F0 m 0 ls []) := by
  unfold bX5_drawn_0 at hF
  obtain ⟨hx, hb, -, hown, -, hts, -⟩ := id C0
  refine lv_bipush (v := (12 : Int32)) hx hb dX5_drawn_0 (by decide) ?_
  obtain ⟨n2, hn, hF⟩ := ob hF
  obtain ⟨o2, ho, hF⟩ := ob hF
  obtain ⟨S2, hv, hF⟩ := ob hF
  have ho := vtI ho
  have hv := vtI hv
  refine k_newI (atype := .int) (ty := .int) (kd := 12) 0 C0 M hA hs rfl (uw_of 185 (by decide +kernel) rfl) rfl (by decide) rfl rfl hn (Nat.le_of_ble_eq_true rfl) (Nat.le_of_ble_eq_true rfl) (Nat.le_of_ble_eq_true rfl) dX5_drawn_2 (fun H M => ?_)
  rw [hv] at M
  rw [ho]
  refine W.widen (k := 1) (n := 12) (Nat.le_of_ble_eq_true rfl) (Nat.le_of_ble_eq_true rfl) ?_
  refine lv_astore (lv' := [(5, .ref (ad o2)), (0, .ref (ad x0)), (1, .int x1), (2, .int x2), (3, .int x3), (4, .int x4)]) hx hb dX5_drawn_4 hl (by decide) rfl (fun ls hl => ?_)
  refine lv_iload hx hb dX5_drawn_6 (lv_at hl 5 rfl) ?_
  refine lv_istore (lv' := [(6, .int x4), (5, .ref (ad o2)), (0, .ref (ad x0)), (1, .int x1), (2, .int x2), (3, .int x3), (4, .int x4)]) hx hb dX5_drawn_8 hl (by decide) rfl (fun ls hl => ?_)
  refine lv_iconst (v := (5 : Int32)) hx hb dX5_drawn_10 (by decide) ?_
  refine lv_istore (lv' := [(7, .int (5 : Int32)), (6, .int x4), (5, .ref (ad o2)), (0, .ref (ad x0)), (1, .int x1), (2, .int x2), (3, .int x3), (4, .int x4)]) hx hb dX5_drawn_11 hl (by decide) rfl (fun ls hl => ?_)
  refine lv_aload hx hb dX5_drawn_13 (lv_at hl 2 rfl) ?_
  refine lv_iload_n hx hb dX5_drawn_15 rfl (lv_at hl 5 rfl) ?_
  refine lv_iload hx hb dX5_drawn_16 (lv_at hl 1 rfl) ?_
  obtain ⟨S18, hv, hF⟩ := ob hF
  refine k_st C0 M hv dX5_drawn_18 (fun H locs M => ?_)
  refine lv_iload_n hx hb dX5_drawn_19 rfl (lv_at hl 5 rfl) ?_
  refine lv_istore (lv' := [(8, .int x2), (7, .int (5 : Int32)), (6, .int x4), (5, .ref (ad o2)), (0, .ref (ad x0)), (1, .int x1), (2, .int x2), (3, .int x3), (4, .int x4)]) hx hb dX5_drawn_20 hl (by decide) rfl (fun ls hl => ?_)
  exact Kh0 _ _ _ _ _ _ _ _ _ _ (Option.some.inj hF).symm _ _ _ M (lv_sub hl [4, 5, 6, 7, 8, 3, 2, 1, 0] rfl)
set_option maxHeartbeats 4000000 in
set_option maxRecDepth 100000 in
theorem wX5_drawn_22 {p : Program} {l : Launch} {e : Env} {s : State} {m : MethodId} {args : Array Value} {below : List Frame} {meth : Method} {c : Code} {D : va_G} {cy : Nat → ClassId} (ad : Nat → Nat) (A : Nat → Prop) {S : MS} {S' : MS} {H : Heap} {locs : List Loc} {K0 : Nat} {r : Nat} {out : ((Nat × Int32 × Int32 × Int32 × Int32 × Nat × Int32 × Int32 × Int32 × MS) ⊕ (Nat × MS))} {ls : Array Slot} {x0 : Nat} {x1 : Int32} {x2 : Int32} {x3 : Int32} {x4 : Int32} {x5 : Nat} {x6 : Int32} {x7 : Int32} {x8 : Int32} (C0 : CX p s m args meth c RX5 cX5_drawn 9 D cy) (hA : ∀ k, 0 < k → A (ad k)) (hs : ∀ k, K0 ≤ k → ad (k + 1) + 1 = ad (k + 2)) (hE : EX ad A s) (M : ST D cy ad A s.heap (ZA ad K0) S H locs) (hr : meth.sig.returnType = (some (.object "ChartRoom$Front"))) (hF : bX5_drawn_22 S x0 x1 x2 x3 x4 x5 x6 x7 x8 = some out) (hl : lv_has ls 9 [(0, .ref (ad x0)), (1, .int x1), (2, .int x2), (3, .int x3), (4, .int x4), (5, .ref (ad x5)), (6, .int x6), (7, .int x7), (8, .int x8)]) (Kr : ∀ r9, out = .inr r9 → r9 = (r, S')) (Kh0 : ∀ (y0 : Nat) (y1 : Int32) (y2 : Int32) (y3 : Int32) (y4 : Int32) (y5 : Nat) (y6 : Int32) (y7 : Int32) (y8 : Int32) (S2 : MS), out = .inl (y0, y1, y2, y3, y4, y5, y6, y7, y8, S2) → ∀ (H1 : Heap) (locs1 : List Loc) (ls1 : Array Slot), ST D cy ad A s.heap (ZA ad K0) S2 H1 locs1 → lv_has ls1 9 [(0, .ref (ad y0)), (1, .int y1), (2, .int y2), (3, .int y3), (4, .int y4), (5, .ref (ad y5)), (6, .int y6), (7, .int y7), (8, .int y8)] → W p l e rmX5_drawn s m args below meth c H1 locs1 1 12 (MQ below (QcA D cy ad A K0 S' (some (.ref (ad r)))) args s 2 17 A) (F0 m 22 ls1 [])) : W p l e rmX5_drawn s m args below meth c H locs 1 12 (MQ below (QcA D cy ad A K0 S' (some (.ref (ad r)))) args s 2 17 A) (F0 m 22 ls []) := by
  unfold bX5_drawn_22 at hF
  obtain ⟨hx, hb, -, hown, -, hts, -⟩ := id C0
  refine lv_iload hx hb dX5_drawn_22 (lv_at hl 8 rfl) ?_
  refine lv_iload_n hx hb dX5_drawn_24 rfl (lv_at hl 3 rfl) ?_
  refine lv_icmp_ge (tgt := 64) hx hb dX5_drawn_25 (by decide) (fun hc => ?_) (fun hc => ?_)
  · have hF := oi_t hc hF
    obtain ⟨o64, ho, hF⟩ := ob hF
    obtain ⟨S64, hv, hF⟩ := ob hF
    have ho := vtI ho
    have hv := vtI hv
    refine k_new C0 M hA hs nw_X5_51 (Nat.le_of_ble_eq_true rfl) (Nat.le_of_ble_eq_true rfl) dX5_drawn_64 (fun H M => ?_)
    rw [hv] at M
    rw [ho]
    refine W.widen (k := 2) (n := 17) (Nat.le_of_ble_eq_true rfl) (Nat.le_of_ble_eq_true rfl) ?_
    refine lv_dup hx hb dX5_drawn_67 rfl ?_
    refine lv_iload_n hx hb dX5_drawn_68 rfl (lv_at hl 1 rfl) ?_
    refine lv_iload_n hx hb dX5_drawn_69 rfl (lv_at hl 2 rfl) ?_
    refine lv_iload_n hx hb dX5_drawn_70 rfl (lv_at hl 3 rfl) ?_
    refine lv_aload_n hx hb dX5_drawn_71 rfl (lv_at hl 0 rfl) ?_
    obtain ⟨v72, hv, hF⟩ := ob hF
    refine k_getP C0 M.1 hv fl_X5_18 dX5_drawn_72 ?_
    refine lv_iload_n hx hb dX5_drawn_75 rfl (lv_at hl 2 rfl) ?_
    refine lv_iload hx hb dX5_drawn_76 (lv_at hl 4 rfl) ?_
    refine lv_iconst (v := (5 : Int32)) hx hb dX5_drawn_78 (by decide) ?_
    obtain ⟨v79, hcl, hF⟩ := ob hF
    refine go_SI (r_S (rest := [.ref (ad v72), .int x3, .int x2, .int x1, .ref (ad o64), .ref (ad o64)]) (As := [.int x2, .int x4, .int (5 : Int32)]) C0 cb_X5_44 (tX5_slotOf l D cy ad hcl) (pre_S C0) hl dX5_drawn_79 rfl (Nat.le_of_ble_eq_true rfl) ⟨rfl, rfl⟩ ⟨Nat.le_of_ble_eq_true rfl, Nat.le_of_ble_eq_true rfl⟩ ⟨Nat.le_of_ble_eq_true rfl, Nat.le_of_ble_eq_true rfl⟩ rfl) ?_
    obtain ⟨v82, hv, hF⟩ := ob hF
    refine k_ld C0 M.1 hv dX5_drawn_82 ?_
    refine lv_aload hx hb dX5_drawn_83 (lv_at hl 5 rfl) ?_
    obtain ⟨S85, hcl, hF⟩ := ob hF
    refine go_MV (r_I (rest := [.ref (ad o64)]) (As := [.int x1, .int x2, .int x3, .int v82, .ref (ad x5)]) C0 cb_X5_53 (tX3_init l D cy ad A hcl) (pre_R C0 M.1) hl dX5_drawn_85 rfl (Nat.le_of_ble_eq_true rfl) ⟨rfl, rfl⟩ ⟨Nat.le_of_ble_eq_true rfl, Nat.le_of_ble_eq_true rfl⟩ ⟨Nat.le_of_ble_eq_true rfl, Nat.le_of_ble_eq_true rfl⟩ rfl) M (fun H locs M => ?_)
    obtain ⟨rfl, rfl⟩ := Prod.mk.inj (Kr _ (Option.some.inj hF).symm)
    exact rt_AP C0 M hr (Or.inl ⟨_, rfl⟩) dX5_drawn_88
  · have hF := oi_f hc hF
    refine lv_aload_n hx hb dX5_drawn_28 rfl (lv_at hl 0 rfl) ?_
    refine lv_iload hx hb dX5_drawn_29 (lv_at hl 8 rfl) ?_
    refine lv_iload hx hb dX5_drawn_31 (lv_at hl 6 rfl) ?_
    refine lv_iload hx hb dX5_drawn_33 (lv_at hl 7 rfl) ?_
    obtain ⟨_, hrec, hF⟩ := ob hF
    obtain ⟨v35, hcl, hF⟩ := ob hF
    refine go_SI (r_V (rest := []) (As := [.int x8, .int x6, .int x7]) C0 cb_X5_48 M.1 hrec (tX5_bestChange l D cy ad A hcl) (pre_R C0 M.1) hl dX5_drawn_35 rfl (Nat.le_of_ble_eq_true rfl) ⟨rfl, rfl⟩ ⟨Nat.le_of_ble_eq_true rfl, Nat.le_of_ble_eq_true rfl⟩ ⟨Nat.le_of_ble_eq_true rfl, Nat.le_of_ble_eq_true rfl⟩ rfl) ?_
    refine lv_istore (lv' := [(7, .int v35), (0, .ref (ad x0)), (1, .int x1), (2, .int x2), (3, .int x3), (4, .int x4), (5, .ref (ad x5)), (6, .int x6), (8, .int x8)]) hx hb dX5_drawn_38 hl (by decide) rfl (fun ls hl => ?_)
    refine lv_iload hx hb dX5_drawn_40 (lv_at hl 7 rfl) ?_
    refine lv_iload hx hb dX5_drawn_42 (lv_at hl 0 rfl) ?_
    refine lv_iconst (v := (2 : Int32)) hx hb dX5_drawn_44 (by decide) ?_
    refine lv_isub hx hb dX5_drawn_45 ?_
    refine lv_iadd hx hb dX5_drawn_46 ?_
    obtain ⟨v47, hv, hF⟩ := ob hF
    have hv := vtI hv
    refine vtopi hv ?_
    refine lv_istore (lv' := [(6, .int v47), (7, .int v35), (0, .ref (ad x0)), (1, .int x1), (2, .int x2), (3, .int x3), (4, .int x4), (5, .ref (ad x5)), (8, .int x8)]) hx hb dX5_drawn_47 hl (by decide) rfl (fun ls hl => ?_)
    refine lv_aload hx hb dX5_drawn_49 (lv_at hl 7 rfl) ?_
    refine lv_iload hx hb dX5_drawn_51 (lv_at hl 8 rfl) ?_
    refine lv_iconst (v := (1 : Int32)) hx hb dX5_drawn_53 (by decide) ?_
    refine lv_iadd hx hb dX5_drawn_54 ?_
    refine lv_iload hx hb dX5_drawn_55 (lv_at hl 0 rfl) ?_
    obtain ⟨S57, hv, hF⟩ := ob hF
    refine k_st C0 M hv dX5_drawn_57 (fun H locs M => ?_)
    obtain ⟨v58, hv, hF⟩ := ob hF
    refine lv_iinc (v := v58) (lv' := [(8, .int v58), (6, .int v47), (7, .int v35), (0, .ref (ad x0)), (1, .int x1), (2, .int x2), (3, .int x3), (4, .int x4), (5, .ref (ad x5))]) hx hb dX5_drawn_58 hl (k := 8) rfl (by rw [← vtI hv]; rfl) (by decide) rfl (fun ls hl => ?_)
    refine lv_goto (tgt := 22) hx hb dX5_drawn_61 (by decide) ?_
    exact Kh0 _ _ _ _ _ _ _ _ _ _ (Option.some.inj hF).symm _ _ _ M (lv_sub hl [3, 4, 5, 6, 7, 8, 1, 2, 0] rfl)
set_option maxHeartbeats 4000000 in
set_option maxRecDepth 100000 in
theorem tX5_drawn (l : Launch) (D : va_G) (cy : Nat → ClassId) (ad : Nat → Nat) (A : Nat → Prop) (K0 : Nat) (hA : ∀ k, 0 < k → A (ad k)) (hs : ∀ k, K0 ≤ k → ad (k + 1) + 1 = ad (k + 2)) {S S' : MS} {a0 : Nat} {a1 : Int32} {a2 : Int32} {a3 : Int32} {a4 : Int32} {r : Nat} (h : fX5_drawn S a0 a1 a2 a3 a4 = some (r, S')) : Met l yX5_drawn [Cond.code yX5_drawn cX5_drawn 9 ((some (.object "ChartRoom$Front")))] rmX5_drawn (PcA D cy ad A K0 S [.ref (ad a0), .int a1, .int a2, .int a3, .int a4]) (QcA D cy ad A K0 S' (some (.ref (ad r)))) 2 17 A := by
  refine met_A (by decide +kernel) cw_X5_drawn (Nat.le_of_ble_eq_true rfl) ?_
  intro p e s m args below meth c ls C0 hE M hr hin hl
  have hl : lv_has ls 9 [(0, .ref (ad a0)), (1, .int a1), (2, .int a2), (3, .int a3), (4, .int a4)] := hl
  have key := lim_walk (step := sX5_drawn) (fun (q : (Nat × Int32 × Int32 × Int32 × Int32 × Nat × Int32 × Int32 × Int32 × MS)) (r9 : (Nat × MS)) => ∀ (r : Nat) (S' : MS), r9 = (r, S') → ((∀ (y0 : Nat) (y1 : Int32) (y2 : Int32) (y3 : Int32) (y4 : Int32) (y5 : Nat) (y6 : Int32) (y7 : Int32) (y8 : Int32) (S2 : MS), q = (y0, y1, y2, y3, y4, y5, y6, y7, y8, S2) → ∀ (H1 : Heap) (locs1 : List Loc) (ls1 : Array Slot), ST D cy ad A s.heap (ZA ad K0) S2 H1 locs1 → lv_has ls1 9 [(0, .ref (ad y0)), (1, .int y1), (2, .int y2), (3, .int y3), (4, .int y4), (5, .ref (ad y5)), (6, .int y6), (7, .int y7), (8, .int y8)] → W p l e rmX5_drawn s m args below meth c H1 locs1 1 12 (MQ below (QcA D cy ad A K0 S' (some (.ref (ad r)))) args s 2 17 A) (F0 m 22 ls1 [])))) ?_
  · unfold fX5_drawn at h
    cases hs0 : bX5_drawn_0 S a0 a1 a2 a3 a4 with
    | none => rw [hs0] at h; cases h
    | some out =>
      rw [hs0] at h
      refine wX5_drawn_0 ad A C0 hA hs hE M hr hs0 hl (fun r9 hr9 => ?_) ?_
      · subst hr9; exact Option.some.inj h
      · intro y0 y1 y2 y3 y4 y5 y6 y7 y8 y9 hq; subst hq; exact (key _ _ h _ _ rfl) _ _ _ _ _ _ _ _ _ _ rfl
  · intro q r9 out hst hre hin9
    intro r S' er; subst er
    refine ?_
    · intro y0 y1 y2 y3 y4 y5 y6 y7 y8 y9 hq H1 locs1 ls1 M hl
      subst hq
      exact wX5_drawn_22 ad A C0 hA hs hE M hr hst hl hre (fun k0 k1 k2 k3 k4 k5 k6 k7 k8 k9 hk => (hin9 _ hk _ _ rfl) _ _ _ _ _ _ _ _ _ _ rfl)
set_option maxHeartbeats 4000000 in
set_option maxRecDepth 100000 in
theorem wX5_takesGates_0 {p : Program} {l : Launch} {e : Env} {s : State} {m : MethodId} {args : Array Value} {below : List Frame} {meth : Method} {c : Code} {D : va_G} {cy : Nat → ClassId} (ad : Nat → Nat) (A : Nat → Prop) {S : MS} {S' : MS} {H : Heap} {locs : List Loc} {n0 : Nat} {r : Int32} {out : ((Nat × Nat × Int32 × Int32 × Int32 × MS) ⊕ (Int32 × MS))} {ls : Array Slot} {x0 : Nat} {x1 : Nat} {x2 : Int32} {x3 : Int32} (C0 : CX p s m args meth c RX5 cX5_takesGates 8 D cy) (M : ST D cy ad A s.heap (ZN n0 s.heap.size) S H locs) (hr : meth.sig.returnType = some .boolean) (hF : bX5_takesGates_0 S x0 x1 x2 x3 = some out) (hl : lv_has ls 8 [(0, .ref (ad x0)), (1, .ref (ad x1)), (2, .int x2), (3, .int x3)]) (Kr : ∀ r9, out = .inr r9 → r9 = (r, S')) (Kh0 : ∀ (y0 : Nat) (y1 : Nat) (y2 : Int32) (y3 : Int32) (y4 : Int32) (S2 : MS), out = .inl (y0, y1, y2, y3, y4, S2) → ∀ (H1 : Heap) (locs1 : List Loc) (ls1 : Array Slot), ST D cy ad A s.heap (ZN n0 s.heap.size) S2 H1 locs1 → lv_has ls1 8 [(0, .ref (ad y0)), (1, .ref (ad y1)), (2, .int y2), (3, .int y3), (4, .int y4)] → W p l e rmX5_takesGates s m args below meth c H1 locs1 0 0 (MQ below (QcM D cy ad A n0 S' (some (.int r))) args s 0 0 A) (F0 m 20 ls1 [])) : W p l e rmX5_takesGates s m args below meth c H locs 0 0 (MQ below (QcM D cy ad A n0 S' (some (.int r))) args s 0 0 A) (F0 m 0 ls []) := by
  unfold bX5_takesGates_0 at hF
  obtain ⟨hx, hb, -, hown, -, hts, -⟩ := id C0
  refine lv_aload_n hx hb dX5_takesGates_0 rfl (lv_at hl 0 rfl) ?_
  obtain ⟨v1, hv, hF⟩ := ob hF
  refine k_getP C0 M.1 hv fl_X5_9 dX5_takesGates_1 ?_
  refine lv_iconst (v := (0 : Int32)) hx hb dX5_takesGates_4 (by decide) ?_
  obtain ⟨S5, hcl, hF⟩ := ob hF
  refine go_MV (r_S (rest := []) (As := [.ref (ad v1), .int (0 : Int32)]) C0 cb_X5_21 (tJ7_fill_53178 l D cy ad A hcl) (pre_R C0 M.1) hl dX5_takesGates_5 rfl (Nat.le_of_ble_eq_true rfl) ⟨rfl, rfl⟩ ⟨Nat.le_of_ble_eq_true rfl, Nat.le_of_ble_eq_true rfl⟩ ⟨Nat.le_of_ble_eq_true rfl, Nat.le_of_ble_eq_true rfl⟩ rfl) M (fun H locs M => ?_)
  refine lv_aload_n hx hb dX5_takesGates_8 rfl (lv_at hl 0 rfl) ?_
  obtain ⟨v9, hv, hF⟩ := ob hF
  refine k_getP C0 M.1 hv fl_X5_15 dX5_takesGates_9 ?_
  refine lv_bipush (v := (11 : Int32)) hx hb dX5_takesGates_12 (by decide) ?_
  obtain ⟨S14, hcl, hF⟩ := ob hF
  refine go_MV (r_S (rest := []) (As := [.ref (ad v9), .int (11 : Int32)]) C0 cb_X5_21 (tJ7_fill_53178 l D cy ad A hcl) (pre_R C0 M.1) hl dX5_takesGates_14 rfl (Nat.le_of_ble_eq_true rfl) ⟨rfl, rfl⟩ ⟨Nat.le_of_ble_eq_true rfl, Nat.le_of_ble_eq_true rfl⟩ ⟨Nat.le_of_ble_eq_true rfl, Nat.le_of_ble_eq_true rfl⟩ rfl) M (fun H locs M => ?_)
  refine lv_iconst (v := (0 : Int32)) hx hb dX5_takesGates_17 (by decide) ?_
  refine lv_istore (lv' := [(4, .int (0 : Int32)), (0, .ref (ad x0)), (1, .ref (ad x1)), (2, .int x2), (3, .int x3)]) hx hb dX5_takesGates_18 hl (by decide) rfl (fun ls hl => ?_)
  exact Kh0 _ _ _ _ _ _ (Option.some.inj hF).symm _ _ _ M (lv_sub hl [1, 2, 3, 4, 0] rfl)
set_option maxHeartbeats 4000000 in
set_option maxRecDepth 100000 in
theorem wX5_takesGates_87 {p : Program} {l : Launch} {e : Env} {s : State} {m : MethodId} {args : Array Value} {below : List Frame} {meth : Method} {c : Code} {D : va_G} {cy : Nat → ClassId} (ad : Nat → Nat) (A : Nat → Prop) {S : MS} {S' : MS} {H : Heap} {locs : List Loc} {n0 : Nat} {r : Int32} {out : ((Nat × Nat × Int32 × Int32 × Int32 × MS) ⊕ (Int32 × MS))} {ls : Array Slot} (C0 : CX p s m args meth c RX5 cX5_takesGates 8 D cy) (M : ST D cy ad A s.heap (ZN n0 s.heap.size) S H locs) (hr : meth.sig.returnType = some .boolean) (hF : bX5_takesGates_87 S = some out) (hl : lv_has ls 8 []) (Kr : ∀ r9, out = .inr r9 → r9 = (r, S')) (Kh0 : ∀ (y0 : Nat) (y1 : Nat) (y2 : Int32) (y3 : Int32) (y4 : Int32) (S2 : MS), out = .inl (y0, y1, y2, y3, y4, S2) → ∀ (H1 : Heap) (locs1 : List Loc) (ls1 : Array Slot), ST D cy ad A s.heap (ZN n0 s.heap.size) S2 H1 locs1 → lv_has ls1 8 [(0, .ref (ad y0)), (1, .ref (ad y1)), (2, .int y2), (3, .int y3), (4, .int y4)] → W p l e rmX5_takesGates s m args below meth c H1 locs1 0 0 (MQ below (QcM D cy ad A n0 S' (some (.int r))) args s 0 0 A) (F0 m 20 ls1 [])) : W p l e rmX5_takesGates s m args below meth c H locs 0 0 (MQ below (QcM D cy ad A n0 S' (some (.int r))) args s 0 0 A) (F0 m 87 ls []) := by
  unfold bX5_takesGates_87 at hF
  obtain ⟨hx, hb, -, hown, -, hts, -⟩ := id C0
  refine lv_iconst (v := (0 : Int32)) hx hb dX5_takesGates_87 (by decide) ?_
  have hz : o_zb (0 : Int32) = some (0 : Int32) := rfl
  obtain ⟨rfl, rfl⟩ := Prod.mk.inj (Kr _ (Option.some.inj hF).symm)
  exact rt_MZ C0 M hr hz dX5_takesGates_88
set_option maxHeartbeats 4000000 in
set_option maxRecDepth 100000 in
theorem wX5_takesGates_20 {p : Program} {l : Launch} {e : Env} {s : State} {m : MethodId} {args : Array Value} {below : List Frame} {meth : Method} {c : Code} {D : va_G} {cy : Nat → ClassId} (ad : Nat → Nat) (A : Nat → Prop) {S : MS} {S' : MS} {H : Heap} {locs : List Loc} {n0 : Nat} {r : Int32} {out : ((Nat × Nat × Int32 × Int32 × Int32 × MS) ⊕ (Int32 × MS))} {ls : Array Slot} {x0 : Nat} {x1 : Nat} {x2 : Int32} {x3 : Int32} {x4 : Int32} (C0 : CX p s m args meth c RX5 cX5_takesGates 8 D cy) (M : ST D cy ad A s.heap (ZN n0 s.heap.size) S H locs) (hr : meth.sig.returnType = some .boolean) (hF : bX5_takesGates_20 S x0 x1 x2 x3 x4 = some out) (hl : lv_has ls 8 [(0, .ref (ad x0)), (1, .ref (ad x1)), (2, .int x2), (3, .int x3), (4, .int x4)]) (Kr : ∀ r9, out = .inr r9 → r9 = (r, S')) (Kh0 : ∀ (y0 : Nat) (y1 : Nat) (y2 : Int32) (y3 : Int32) (y4 : Int32) (S2 : MS), out = .inl (y0, y1, y2, y3, y4, S2) → ∀ (H1 : Heap) (locs1 : List Loc) (ls1 : Array Slot), ST D cy ad A s.heap (ZN n0 s.heap.size) S2 H1 locs1 → lv_has ls1 8 [(0, .ref (ad y0)), (1, .ref (ad y1)), (2, .int y2), (3, .int y3), (4, .int y4)] → W p l e rmX5_takesGates s m args below meth c H1 locs1 0 0 (MQ below (QcM D cy ad A n0 S' (some (.int r))) args s 0 0 A) (F0 m 20 ls1 [])) : W p l e rmX5_takesGates s m args below meth c H locs 0 0 (MQ below (QcM D cy ad A n0 S' (some (.int r))) args s 0 0 A) (F0 m 20 ls []) := by
  unfold bX5_takesGates_20 at hF
  obtain ⟨hx, hb, -, hown, -, hts, -⟩ := id C0
  refine lv_iload hx hb dX5_takesGates_20 (lv_at hl 4 rfl) ?_
  refine lv_iload_n hx hb dX5_takesGates_22 rfl (lv_at hl 3 rfl) ?_
  refine lv_icmp_ge (tgt := 133) hx hb dX5_takesGates_23 (by decide) (fun hc => ?_) (fun hc => ?_)
  · have hF := oi_t hc hF
    refine lv_iconst (v := (1 : Int32)) hx hb dX5_takesGates_133 (by decide) ?_
    have hz : o_zb (1 : Int32) = some (1 : Int32) := rfl
    obtain ⟨rfl, rfl⟩ := Prod.mk.inj (Kr _ (Option.some.inj hF).symm)
    exact rt_MZ C0 M hr hz dX5_takesGates_134
  · have hF := oi_f hc hF
    refine lv_aload_n hx hb dX5_takesGates_26 rfl (lv_at hl 1 rfl) ?_
    refine lv_iload_n hx hb dX5_takesGates_27 rfl (lv_at hl 2 rfl) ?_
    refine lv_iconst (v := (3 : Int32)) hx hb dX5_takesGates_28 (by decide) ?_
    refine lv_iload hx hb dX5_takesGates_29 (lv_at hl 4 rfl) ?_
    refine lv_imul hx hb dX5_takesGates_31 ?_
    refine lv_iadd hx hb dX5_takesGates_32 ?_
    obtain ⟨v33, hv, hF⟩ := ob hF
    refine k_ld C0 M.1 hv dX5_takesGates_33 ?_
    refine lv_istore (lv' := [(5, .int v33), (0, .ref (ad x0)), (1, .ref (ad x1)), (2, .int x2), (3, .int x3), (4, .int x4)]) hx hb dX5_takesGates_34 hl (by decide) rfl (fun ls hl => ?_)
    refine lv_aload_n hx hb dX5_takesGates_36 rfl (lv_at hl 2 rfl) ?_
    refine lv_iload_n hx hb dX5_takesGates_37 rfl (lv_at hl 3 rfl) ?_
    refine lv_iconst (v := (3 : Int32)) hx hb dX5_takesGates_38 (by decide) ?_
    refine lv_iload hx hb dX5_takesGates_39 (lv_at hl 5 rfl) ?_
    refine lv_imul hx hb dX5_takesGates_41 ?_
    refine lv_iadd hx hb dX5_takesGates_42 ?_
    refine lv_iconst (v := (1 : Int32)) hx hb dX5_takesGates_43 (by decide) ?_
    refine lv_iadd hx hb dX5_takesGates_44 ?_
    obtain ⟨v45, hv, hF⟩ := ob hF
    refine k_ld C0 M.1 hv dX5_takesGates_45 ?_
    refine lv_istore (lv' := [(6, .int v45), (5, .int v33), (0, .ref (ad x0)), (1, .ref (ad x1)), (2, .int x2), (3, .int x3), (4, .int x4)]) hx hb dX5_takesGates_46 hl (by decide) rfl (fun ls hl => ?_)
    refine lv_aload_n hx hb dX5_takesGates_48 rfl (lv_at hl 3 rfl) ?_
    refine lv_iload_n hx hb dX5_takesGates_49 rfl (lv_at hl 4 rfl) ?_
    refine lv_iconst (v := (3 : Int32)) hx hb dX5_takesGates_50 (by decide) ?_
    refine lv_iload hx hb dX5_takesGates_51 (lv_at hl 6 rfl) ?_
    refine lv_imul hx hb dX5_takesGates_53 ?_
    refine lv_iadd hx hb dX5_takesGates_54 ?_
    refine lv_iconst (v := (2 : Int32)) hx hb dX5_takesGates_55 (by decide) ?_
    refine lv_iadd hx hb dX5_takesGates_56 ?_
    obtain ⟨v57, hv, hF⟩ := ob hF
    refine k_ld C0 M.1 hv dX5_takesGates_57 ?_
    refine lv_istore (lv' := [(7, .int v57), (6, .int v45), (5, .int v33), (0, .ref (ad x0)), (1, .ref (ad x1)), (2, .int x2), (3, .int x3), (4, .int x4)]) hx hb dX5_takesGates_58 hl (by decide) rfl (fun ls hl => ?_)
    refine lv_iload hx hb dX5_takesGates_60 (lv_at hl 2 rfl) ?_
    refine lv_iload hx hb dX5_takesGates_62 (lv_at hl 1 rfl) ?_
    obtain ⟨v64, hcl, hF⟩ := ob hF
    refine go_SI (r_SN (rest := []) (As := [.int v33, .int v45]) C0 cb_X5_27 (tX9_isPlace l D cy ad hcl) (pre_S C0) hl dX5_takesGates_64 rfl (Nat.le_of_ble_eq_true rfl) ⟨rfl, rfl⟩ ⟨Nat.le_of_ble_eq_true rfl, Nat.le_of_ble_eq_true rfl⟩ ⟨Nat.le_of_ble_eq_true rfl, Nat.le_of_ble_eq_true rfl⟩ rfl) ?_
    refine lv_if_eq (tgt := 87) hx hb dX5_takesGates_67 (by decide) (fun hc => ?_) (fun hc => ?_)
    · have hF := oi_t hc hF
      exact wX5_takesGates_87 ad A C0 M hr hF (lv_sub hl [] rfl) Kr Kh0
    · have hF := oi_f hc hF
      refine lv_iload hx hb dX5_takesGates_70 (lv_at hl 2 rfl) ?_
      refine lv_iload hx hb dX5_takesGates_72 (lv_at hl 0 rfl) ?_
      obtain ⟨v74, hcl, hF⟩ := ob hF
      refine go_SI (r_SN (rest := []) (As := [.int v33, .int v57]) C0 cb_X5_27 (tX9_isPlace l D cy ad hcl) (pre_S C0) hl dX5_takesGates_74 rfl (Nat.le_of_ble_eq_true rfl) ⟨rfl, rfl⟩ ⟨Nat.le_of_ble_eq_true rfl, Nat.le_of_ble_eq_true rfl⟩ ⟨Nat.le_of_ble_eq_true rfl, Nat.le_of_ble_eq_true rfl⟩ rfl) ?_
      refine lv_if_eq (tgt := 87) hx hb dX5_takesGates_77 (by decide) (fun hc => ?_) (fun hc => ?_)
      · have hF := oi_t hc hF
        exact wX5_takesGates_87 ad A C0 M hr hF (lv_sub hl [] rfl) Kr Kh0
      · have hF := oi_f hc hF
        refine lv_iload hx hb dX5_takesGates_80 (lv_at hl 1 rfl) ?_
        refine lv_iload hx hb dX5_takesGates_82 (lv_at hl 0 rfl) ?_
        refine lv_icmp_le (tgt := 89) hx hb dX5_takesGates_84 (by decide) (fun hc => ?_) (fun hc => ?_)
        · have hF := oi_t hc hF
          refine lv_aload_n hx hb dX5_takesGates_89 rfl (lv_at hl 3 rfl) ?_
          obtain ⟨v90, hv, hF⟩ := ob hF
          refine k_getP C0 M.1 hv fl_X5_9 dX5_takesGates_90 ?_
          refine lv_iload hx hb dX5_takesGates_93 (lv_at hl 2 rfl) ?_
          refine lv_aload_n hx hb dX5_takesGates_95 rfl (lv_at hl 3 rfl) ?_
          obtain ⟨v96, hv, hF⟩ := ob hF
          refine k_getP C0 M.1 hv fl_X5_9 dX5_takesGates_96 ?_
          refine lv_iload hx hb dX5_takesGates_99 (lv_at hl 2 rfl) ?_
          obtain ⟨v101, hv, hF⟩ := ob hF
          refine k_ld C0 M.1 hv dX5_takesGates_101 ?_
          refine lv_iload hx hb dX5_takesGates_102 (lv_at hl 1 rfl) ?_
          obtain ⟨v104, hcl, hF⟩ := ob hF
          refine go_SI (r_S (rest := [.int v33, .ref (ad v90)]) (As := [.int v101, .int v45]) C0 cb_X5_31 (tJ9_max_7cf53 l D cy ad hcl) (pre_S C0) hl dX5_takesGates_104 rfl (Nat.le_of_ble_eq_true rfl) ⟨rfl, rfl⟩ ⟨Nat.le_of_ble_eq_true rfl, Nat.le_of_ble_eq_true rfl⟩ ⟨Nat.le_of_ble_eq_true rfl, Nat.le_of_ble_eq_true rfl⟩ rfl) ?_
          obtain ⟨S107, hv, hF⟩ := ob hF
          refine k_st C0 M hv dX5_takesGates_107 (fun H locs M => ?_)
          refine lv_aload_n hx hb dX5_takesGates_108 rfl (lv_at hl 3 rfl) ?_
          obtain ⟨v109, hv, hF⟩ := ob hF
          refine k_getP C0 M.1 hv fl_X5_15 dX5_takesGates_109 ?_
          refine lv_iload hx hb dX5_takesGates_112 (lv_at hl 2 rfl) ?_
          refine lv_aload_n hx hb dX5_takesGates_114 rfl (lv_at hl 3 rfl) ?_
          obtain ⟨v115, hv, hF⟩ := ob hF
          refine k_getP C0 M.1 hv fl_X5_15 dX5_takesGates_115 ?_
          refine lv_iload hx hb dX5_takesGates_118 (lv_at hl 2 rfl) ?_
          obtain ⟨v120, hv, hF⟩ := ob hF
          refine k_ld C0 M.1 hv dX5_takesGates_120 ?_
          refine lv_iload hx hb dX5_takesGates_121 (lv_at hl 0 rfl) ?_
          obtain ⟨v123, hcl, hF⟩ := ob hF
          refine go_SI (r_S (rest := [.int v33, .ref (ad v109)]) (As := [.int v120, .int v57]) C0 cb_X5_37 (tJ9_min_7cf53 l D cy ad hcl) (pre_S C0) hl dX5_takesGates_123 rfl (Nat.le_of_ble_eq_true rfl) ⟨rfl, rfl⟩ ⟨Nat.le_of_ble_eq_true rfl, Nat.le_of_ble_eq_true rfl⟩ ⟨Nat.le_of_ble_eq_true rfl, Nat.le_of_ble_eq_true rfl⟩ rfl) ?_
          obtain ⟨S126, hv, hF⟩ := ob hF
          refine k_st C0 M hv dX5_takesGates_126 (fun H locs M => ?_)
          obtain ⟨v127, hv, hF⟩ := ob hF
          refine lv_iinc (v := v127) (lv' := [(4, .int v127), (7, .int v57), (6, .int v45), (5, .int v33), (0, .ref (ad x0)), (1, .ref (ad x1)), (2, .int x2), (3, .int x3)]) hx hb dX5_takesGates_127 hl (k := 7) rfl (by rw [← vtI hv]; rfl) (by decide) rfl (fun ls hl => ?_)
          refine lv_goto (tgt := 20) hx hb dX5_takesGates_130 (by decide) ?_
          exact Kh0 _ _ _ _ _ _ (Option.some.inj hF).symm _ _ _ M (lv_sub hl [4, 5, 6, 7, 0] rfl)
        · have hF := oi_f hc hF
          exact wX5_takesGates_87 ad A C0 M hr hF (lv_sub hl [] rfl) Kr Kh0
set_option maxHeartbeats 4000000 in
set_option maxRecDepth 100000 in
theorem tX5_takesGates (l : Launch) (D : va_G) (cy : Nat → ClassId) (ad : Nat → Nat) (A : Nat → Prop) {S S' : MS} {a0 : Nat} {a1 : Nat} {a2 : Int32} {a3 : Int32} {r : Int32} (h : fX5_takesGates S a0 a1 a2 a3 = some (r, S')) : Met l yX5_takesGates [Cond.code yX5_takesGates cX5_takesGates 8 (some .boolean)] rmX5_takesGates (PcR D cy ad A S [.ref (ad a0), .ref (ad a1), .int a2, .int a3]) (QcM D cy ad A (m_n S) S' (some (.int r))) 0 0 A := by
  refine met_M (by decide +kernel) cw_X5_takesGates (Nat.le_of_ble_eq_true rfl) ?_
  intro p e s m args below meth c ls C0 M hr hin hl
  have hl : lv_has ls 8 [(0, .ref (ad a0)), (1, .ref (ad a1)), (2, .int a2), (3, .int a3)] := hl
  have key := lim_walk (step := sX5_takesGates) (fun (q : (Nat × Nat × Int32 × Int32 × Int32 × MS)) (r9 : (Int32 × MS)) => ∀ (r : Int32) (S' : MS), r9 = (r, S') → ((∀ (y0 : Nat) (y1 : Nat) (y2 : Int32) (y3 : Int32) (y4 : Int32) (S2 : MS), q = (y0, y1, y2, y3, y4, S2) → ∀ (H1 : Heap) (locs1 : List Loc) (ls1 : Array Slot), ST D cy ad A s.heap (ZN (m_n S) s.heap.size) S2 H1 locs1 → lv_has ls1 8 [(0, .ref (ad y0)), (1, .ref (ad y1)), (2, .int y2), (3, .int y3), (4, .int y4)] → W p l e rmX5_takesGates s m args below meth c H1 locs1 0 0 (MQ below (QcM D cy ad A (m_n S) S' (some (.int r))) args s 0 0 A) (F0 m 20 ls1 [])))) ?_
  · unfold fX5_takesGates at h
    cases hs0 : bX5_takesGates_0 S a0 a1 a2 a3 with
    | none => rw [hs0] at h; cases h
    | some out =>
      rw [hs0] at h
      refine wX5_takesGates_0 ad A C0 M hr hs0 hl (fun r9 hr9 => ?_) ?_
      · subst hr9; exact Option.some.inj h
      · intro y0 y1 y2 y3 y4 y5 hq; subst hq; exact (key _ _ h _ _ rfl) _ _ _ _ _ _ rfl
  · intro q r9 out hst hre hin9
    intro r S' er; subst er
    refine ?_
    · intro y0 y1 y2 y3 y4 y5 hq H1 locs1 ls1 M hl
      subst hq
      exact wX5_takesGates_20 ad A C0 M hr hst hl hre (fun k0 k1 k2 k3 k4 k5 hk => (hin9 _ hk _ _ rfl) _ _ _ _ _ _ rfl)
set_option maxHeartbeats 4000000 in
set_option maxRecDepth 100000 in
theorem wX9_draw_40 {p : Program} {l : Launch} {e : Env} {s : State} {m : MethodId} {args : Array Value} {below : List Frame} {meth : Method} {c : Code} {D : va_G} {cy : Nat → ClassId} (ad : Nat → Nat) (A : Nat → Prop) {S : MS} {S' : MS} {H : Heap} {locs : List Loc} {K0 : Nat} {r : Int32} {ls : Array Slot} (C0 : CX p s m args meth c RX9 cX9_draw 12 D cy) (hA : ∀ k, 0 < k → A (ad k)) (hs : ∀ k, K0 ≤ k → ad (k + 1) + 1 = ad (k + 2)) (hE : EX ad A s) (M : ST D cy ad A s.heap (ZA ad K0) S H locs) (hr : meth.sig.returnType = some .int) (hF : bX9_draw_40 S = some (r, S')) (hl : lv_has ls 12 []) : W p l e rmX9_draw s m args below meth c H locs 0 0 (MQ below (QcA D cy ad A K0 S' (some (.int r))) args s 3 57 A) (F0 m 40 ls []) := by
  unfold bX9_draw_40 at hF
  obtain ⟨hx, hb, -, hown, -, hts, -⟩ := id C0
  refine lv_bipush (v := (-2 : Int32)) hx hb dX9_draw_40 (by decide) ?_
  obtain ⟨rfl, rfl⟩ := Prod.mk.inj (Option.some.inj hF)
  refine W.widen (k := 3) (n := 57) (Nat.le_of_ble_eq_true rfl) (Nat.le_of_ble_eq_true rfl) ?_
  exact rt_AI C0 M hr dX9_draw_42
set_option maxHeartbeats 4000000 in
set_option maxRecDepth 100000 in
theorem wX9_draw_60 {p : Program} {l : Launch} {e : Env} {s : State} {m : MethodId} {args : Array Value} {below : List Frame} {meth : Method} {c : Code} {D : va_G} {cy : Nat → ClassId} (ad : Nat → Nat) (A : Nat → Prop) {S : MS} {S' : MS} {H : Heap} {locs : List Loc} {K0 : Nat} {r : Int32} {ls : Array Slot} (C0 : CX p s m args meth c RX9 cX9_draw 12 D cy) (hA : ∀ k, 0 < k → A (ad k)) (hs : ∀ k, K0 ≤ k → ad (k + 1) + 1 = ad (k + 2)) (hE : EX ad A s) (M : ST D cy ad A s.heap (ZA ad K0) S H locs) (hr : meth.sig.returnType = some .int) (hF : bX9_draw_60 S = some (r, S')) (hl : lv_has ls 12 []) : W p l e rmX9_draw s m args below meth c H locs 0 0 (MQ below (QcA D cy ad A K0 S' (some (.int r))) args s 3 57 A) (F0 m 60 ls []) := by
  unfold bX9_draw_60 at hF
  obtain ⟨hx, hb, -, hown, -, hts, -⟩ := id C0
  refine lv_bipush (v := (-2 : Int32)) hx hb dX9_draw_60 (by decide) ?_
  obtain ⟨rfl, rfl⟩ := Prod.mk.inj (Option.some.inj hF)
  refine W.widen (k := 3) (n := 57) (Nat.le_of_ble_eq_true rfl) (Nat.le_of_ble_eq_true rfl) ?_
  exact rt_AI C0 M hr dX9_draw_62
set_option maxHeartbeats 4000000 in
set_option maxRecDepth 100000 in
theorem wX9_draw_0 {p : Program} {l : Launch} {e : Env} {s : State} {m : MethodId} {args : Array Value} {below : List Frame} {meth : Method} {c : Code} {D : va_G} {cy : Nat → ClassId} (ad : Nat → Nat) (A : Nat → Prop) {S : MS} {S' : MS} {H : Heap} {locs : List Loc} {K0 : Nat} {r : Int32} {ls : Array Slot} {x0 : Nat} {x1 : Int32} {x2 : Int32} {x3 : Int32} {x4 : Int32} {x5 : Int32} {x6 : Int32} {x7 : Int32} {x8 : Int32} (C0 : CX p s m args meth c RX9 cX9_draw 12 D cy) (hA : ∀ k, 0 < k → A (ad k)) (hs : ∀ k, K0 ≤ k → ad (k + 1) + 1 = ad (k + 2)) (hE : EX ad A s) (M : ST D cy ad A s.heap (ZA ad K0) S H locs) (hr : meth.sig.returnType = some .int) (hF : bX9_draw_0 S x0 x1 x2 x3 x4 x5 x6 x7 x8 = some (r, S')) (hl : lv_has ls 12 [(0, .ref (ad x0)), (1, .int x1), (2, .int x2), (3, .int x3), (4, .int x4), (5, .int x5), (6, .int x6), (7, .int x7), (8, .int x8)]) : W p l e rmX9_draw s m args below meth c H locs 0 0 (MQ below (QcA D cy ad A K0 S' (some (.int r))) args s 3 57 A) (F0 m 0 ls []) := by
  unfold bX9_draw_0 at hF
  obtain ⟨hx, hb, -, hown, -, hts, -⟩ := id C0
  refine lv_aload_n hx hb dX9_draw_0 rfl (lv_at hl 0 rfl) ?_
  refine lv_iconst (v := (0 : Int32)) hx hb dX9_draw_1 (by decide) ?_
  obtain ⟨S2, hv, hF⟩ := ob hF
  refine k_sI C0 M hv fl_X9_76 dX9_draw_2 (fun H locs M => ?_)
  refine lv_iload hx hb dX9_draw_5 (lv_at hl 5 rfl) ?_
  obtain ⟨v7, hcl, hF⟩ := ob hF
  refine go_SI (r_S (rest := []) (As := [.int x5]) C0 cb_X9_150 (tX9_isSheet l D cy ad hcl) (pre_S C0) hl dX9_draw_7 rfl (Nat.le_of_ble_eq_true rfl) ⟨rfl, rfl⟩ ⟨Nat.le_of_ble_eq_true rfl, Nat.le_of_ble_eq_true rfl⟩ ⟨Nat.le_of_ble_eq_true rfl, Nat.le_of_ble_eq_true rfl⟩ rfl) ?_
  refine lv_if_ne (tgt := 15) hx hb dX9_draw_10 (by decide) (fun hc => ?_) (fun hc => ?_)
  · have hF := oi_f hc hF
    refine lv_iload hx hb dX9_draw_15 (lv_at hl 6 rfl) ?_
    refine lv_iconst (v := (3 : Int32)) hx hb dX9_draw_17 (by decide) ?_
    obtain ⟨v18, hcl, hF⟩ := ob hF
    refine go_SI (r_S (rest := []) (As := [.int x6, .int (3 : Int32)]) C0 cb_X9_79 (tX9_isBelow l D cy ad hcl) (pre_S C0) hl dX9_draw_18 rfl (Nat.le_of_ble_eq_true rfl) ⟨rfl, rfl⟩ ⟨Nat.le_of_ble_eq_true rfl, Nat.le_of_ble_eq_true rfl⟩ ⟨Nat.le_of_ble_eq_true rfl, Nat.le_of_ble_eq_true rfl⟩ rfl) ?_
    refine lv_if_eq (tgt := 40) hx hb dX9_draw_21 (by decide) (fun hc => ?_) (fun hc => ?_)
    · have hF := oi_t hc hF
      exact wX9_draw_40 ad A C0 hA hs hE M hr hF (lv_sub hl [] rfl)
    · have hF := oi_f hc hF
      refine lv_iload_n hx hb dX9_draw_24 rfl (lv_at hl 1 rfl) ?_
      refine lv_iconst (v := (2 : Int32)) hx hb dX9_draw_25 (by decide) ?_
      obtain ⟨v26, hcl, hF⟩ := ob hF
      refine go_SI (r_S (rest := []) (As := [.int x1, .int (2 : Int32)]) C0 cb_X9_79 (tX9_isBelow l D cy ad hcl) (pre_S C0) hl dX9_draw_26 rfl (Nat.le_of_ble_eq_true rfl) ⟨rfl, rfl⟩ ⟨Nat.le_of_ble_eq_true rfl, Nat.le_of_ble_eq_true rfl⟩ ⟨Nat.le_of_ble_eq_true rfl, Nat.le_of_ble_eq_true rfl⟩ rfl) ?_
      refine lv_if_eq (tgt := 40) hx hb dX9_draw_29 (by decide) (fun hc => ?_) (fun hc => ?_)
      · have hF := oi_t hc hF
        exact wX9_draw_40 ad A C0 hA hs hE M hr hF (lv_sub hl [] rfl)
      · have hF := oi_f hc hF
        refine lv_iload_n hx hb dX9_draw_32 rfl (lv_at hl 2 rfl) ?_
        refine lv_iconst (v := (3 : Int32)) hx hb dX9_draw_33 (by decide) ?_
        obtain ⟨v34, hcl, hF⟩ := ob hF
        refine go_SI (r_S (rest := []) (As := [.int x2, .int (3 : Int32)]) C0 cb_X9_79 (tX9_isBelow l D cy ad hcl) (pre_S C0) hl dX9_draw_34 rfl (Nat.le_of_ble_eq_true rfl) ⟨rfl, rfl⟩ ⟨Nat.le_of_ble_eq_true rfl, Nat.le_of_ble_eq_true rfl⟩ ⟨Nat.le_of_ble_eq_true rfl, Nat.le_of_ble_eq_true rfl⟩ rfl) ?_
        refine lv_if_ne (tgt := 43) hx hb dX9_draw_37 (by decide) (fun hc => ?_) (fun hc => ?_)
        · have hF := oi_f hc hF
          refine lv_iload_n hx hb dX9_draw_43 rfl (lv_at hl 3 rfl) ?_
          refine lv_if_lt (tgt := 60) hx hb dX9_draw_44 (by decide) (fun hc => ?_) (fun hc => ?_)
          · have hF := oi_t hc hF
            exact wX9_draw_60 ad A C0 hA hs hE M hr hF (lv_sub hl [] rfl)
          · have hF := oi_f hc hF
            refine lv_iload_n hx hb dX9_draw_47 rfl (lv_at hl 3 rfl) ?_
            refine lv_iload hx hb dX9_draw_48 (lv_at hl 4 rfl) ?_
            refine lv_icmp_ge (tgt := 60) hx hb dX9_draw_50 (by decide) (fun hc => ?_) (fun hc => ?_)
            · have hF := oi_t hc hF
              exact wX9_draw_60 ad A C0 hA hs hE M hr hF (lv_sub hl [] rfl)
            · have hF := oi_f hc hF
              refine lv_iload hx hb dX9_draw_53 (lv_at hl 4 rfl) ?_
              refine lv_bipush (v := (12 : Int32)) hx hb dX9_draw_55 (by decide) ?_
              refine lv_icmp_lt (tgt := 63) hx hb dX9_draw_57 (by decide) (fun hc => ?_) (fun hc => ?_)
              · have hF := oi_t hc hF
                refine lv_aload_n hx hb dX9_draw_63 rfl (lv_at hl 0 rfl) ?_
                obtain ⟨v64, hv, hF⟩ := ob hF
                refine k_getP C0 M.1 hv fl_X9_67 dX9_draw_64 ?_
                refine lv_iload hx hb dX9_draw_67 (lv_at hl 5 rfl) ?_
                obtain ⟨v69, hv, hF⟩ := ob hF
                refine k_ldP (ty := (.object "ChartRoom$Sheet")) 2 C0 M.1 (by decide) rfl rfl hv dX9_draw_69 ?_
                refine lv_iload hx hb dX9_draw_70 (lv_at hl 6 rfl) ?_
                refine lv_iload hx hb dX9_draw_72 (lv_at hl 7 rfl) ?_
                refine lv_ldc2 (v := (3 : Int64)) hx hb hown (hts _ (uw_of 752 (by decide +kernel) rfl)) dX9_draw_74 ?_
                refine lv_iload hx hb dX9_draw_77 (lv_at hl 8 rfl) ?_
                refine lv_i2l (v := (x8.toInt64)) hx hb dX9_draw_79 rfl ?_
                refine lv_lmul hx hb dX9_draw_80 ?_
                obtain ⟨_, hrec, hF⟩ := ob hF
                obtain ⟨v81, hcl, hF⟩ := ob hF
                refine go_SI (r_V (rest := []) (As := [.int x6, .int x7, .long ((3 : Int64) * (x8.toInt64))]) C0 cb_X9_155 M.1 hrec (tX7_faultOfTaking l D cy ad A hcl) (pre_R C0 M.1) hl dX9_draw_81 rfl (Nat.le_of_ble_eq_true rfl) ⟨rfl, rfl⟩ ⟨Nat.le_of_ble_eq_true rfl, Nat.le_of_ble_eq_true rfl⟩ ⟨Nat.le_of_ble_eq_true rfl, Nat.le_of_ble_eq_true rfl⟩ rfl) ?_
                refine lv_istore (lv' := [(9, .int v81), (0, .ref (ad x0)), (1, .int x1), (2, .int x2), (3, .int x3), (4, .int x4), (5, .int x5), (6, .int x6), (7, .int x7), (8, .int x8)]) hx hb dX9_draw_84 hl (by decide) rfl (fun ls hl => ?_)
                refine lv_iload hx hb dX9_draw_86 (lv_at hl 0 rfl) ?_
                refine lv_if_eq (tgt := 98) hx hb dX9_draw_88 (by decide) (fun hc => ?_) (fun hc => ?_)
                · have hF := oi_t hc hF
                  refine lv_aload_n hx hb dX9_draw_98 rfl (lv_at hl 1 rfl) ?_
                  obtain ⟨v99, hv, hF⟩ := ob hF
                  refine k_getP C0 M.1 hv fl_X9_42 dX9_draw_99 ?_
                  refine lv_aload_n hx hb dX9_draw_102 rfl (lv_at hl 1 rfl) ?_
                  obtain ⟨v103, hv, hF⟩ := ob hF
                  refine k_getP C0 M.1 hv fl_X9_67 dX9_draw_103 ?_
                  refine lv_iload hx hb dX9_draw_106 (lv_at hl 6 rfl) ?_
                  obtain ⟨v108, hv, hF⟩ := ob hF
                  refine k_ldP (ty := (.object "ChartRoom$Sheet")) 2 C0 M.1 (by decide) rfl rfl hv dX9_draw_108 ?_
                  obtain ⟨v109, hv, hF⟩ := ob hF
                  refine k_getP C0 M.1 hv fl_X9_162 dX9_draw_109 ?_
                  refine lv_iload hx hb dX9_draw_112 (lv_at hl 8 rfl) ?_
                  refine lv_iload hx hb dX9_draw_114 (lv_at hl 9 rfl) ?_
                  obtain ⟨_, hrec, hF⟩ := ob hF
                  obtain ⟨v116, S116, hcl, hF⟩ := ob2 hF
                  refine go_MI (r_V (rest := []) (As := [.ref (ad v109), .int x7, .int x8]) C0 cb_X9_254 M.1 hrec (tX5_takesGates l D cy ad A hcl) (pre_R C0 M.1) hl dX9_draw_116 rfl (Nat.le_of_ble_eq_true rfl) ⟨rfl, rfl⟩ ⟨Nat.le_of_ble_eq_true rfl, Nat.le_of_ble_eq_true rfl⟩ ⟨Nat.le_of_ble_eq_true rfl, Nat.le_of_ble_eq_true rfl⟩ rfl) M (fun H locs M => ?_)
                  refine lv_if_ne (tgt := 125) hx hb dX9_draw_119 (by decide) (fun hc => ?_) (fun hc => ?_)
                  · have hF := oi_f hc hF
                    refine lv_aload_n hx hb dX9_draw_125 rfl (lv_at hl 1 rfl) ?_
                    obtain ⟨v126, hv, hF⟩ := ob hF
                    refine k_getP C0 M.1 hv fl_X9_42 dX9_draw_126 ?_
                    refine lv_iload_n hx hb dX9_draw_129 rfl (lv_at hl 4 rfl) ?_
                    refine lv_iload hx hb dX9_draw_130 (lv_at hl 5 rfl) ?_
                    obtain ⟨_, hrec, hF⟩ := ob hF
                    obtain ⟨v132, S132, hcl, hF⟩ := ob2 hF
                    refine go_MI (r_V (rest := []) (As := [.int x3, .int x4]) C0 cb_X9_258 M.1 hrec (tX5_bestStart l D cy ad A hcl) (pre_R C0 M.1) hl dX9_draw_132 rfl (Nat.le_of_ble_eq_true rfl) ⟨rfl, rfl⟩ ⟨Nat.le_of_ble_eq_true rfl, Nat.le_of_ble_eq_true rfl⟩ ⟨Nat.le_of_ble_eq_true rfl, Nat.le_of_ble_eq_true rfl⟩ rfl) M (fun H locs M => ?_)
                    refine lv_istore (lv' := [(10, .int v132), (9, .int v81), (0, .ref (ad x0)), (1, .int x1), (2, .int x2), (3, .int x3), (4, .int x4), (5, .int x5), (6, .int x6), (7, .int x7), (8, .int x8)]) hx hb dX9_draw_135 hl (by decide) rfl (fun ls hl => ?_)
                    refine lv_iload hx hb dX9_draw_137 (lv_at hl 0 rfl) ?_
                    refine lv_bipush (v := (-9 : Int32)) hx hb dX9_draw_139 (by decide) ?_
                    refine lv_icmp_ne (tgt := 147) hx hb dX9_draw_141 (by decide) (fun hc => ?_) (fun hc => ?_)
                    · have hF := oi_f hc hF
                      refine lv_aload_n hx hb dX9_draw_147 rfl (lv_at hl 2 rfl) ?_
                      refine lv_iload_n hx hb dX9_draw_148 rfl (lv_at hl 3 rfl) ?_
                      obtain ⟨_, hrec, hF⟩ := ob hF
                      obtain ⟨v149, hcl, hF⟩ := ob hF
                      refine go_SP (r_V (rest := []) (As := [.int x1]) C0 cb_X9_261 M.1 hrec (tX9_frontsOf l D cy ad A hcl) (pre_R C0 M.1) hl dX9_draw_149 rfl (Nat.le_of_ble_eq_true rfl) ⟨rfl, rfl⟩ ⟨Nat.le_of_ble_eq_true rfl, Nat.le_of_ble_eq_true rfl⟩ ⟨Nat.le_of_ble_eq_true rfl, Nat.le_of_ble_eq_true rfl⟩ rfl) ?_
                      refine lv_astore (lv' := [(11, .ref (ad v149)), (10, .int v132), (9, .int v81), (0, .ref (ad x0)), (1, .int x1), (2, .int x2), (3, .int x3), (4, .int x4), (5, .int x5), (6, .int x6), (7, .int x7), (8, .int x8)]) hx hb dX9_draw_152 hl (by decide) rfl (fun ls hl => ?_)
                      refine lv_aload hx hb dX9_draw_154 (lv_at hl 0 rfl) ?_
                      obtain ⟨_, hrec, hF⟩ := ob hF
                      obtain ⟨v156, hcl, hF⟩ := ob hF
                      refine go_SI (r_V (rest := []) (As := []) C0 cb_X9_93 M.1 hrec (tJx4a65c_size_8abf5 l D cy ad A hcl) (pre_R C0 M.1) hl dX9_draw_156 rfl (Nat.le_of_ble_eq_true rfl) ⟨rfl, rfl⟩ ⟨Nat.le_of_ble_eq_true rfl, Nat.le_of_ble_eq_true rfl⟩ ⟨Nat.le_of_ble_eq_true rfl, Nat.le_of_ble_eq_true rfl⟩ rfl) ?_
                      refine lv_iconst (v := (5 : Int32)) hx hb dX9_draw_159 (by decide) ?_
                      refine lv_icmp_lt (tgt := 166) hx hb dX9_draw_160 (by decide) (fun hc => ?_) (fun hc => ?_)
                      · have hF := oi_t hc hF
                        refine lv_aload hx hb dX9_draw_166 (lv_at hl 0 rfl) ?_
                        refine lv_aload_n hx hb dX9_draw_168 rfl (lv_at hl 3 rfl) ?_
                        obtain ⟨v169, hv, hF⟩ := ob hF
                        refine k_getP C0 M.1 hv fl_X9_42 dX9_draw_169 ?_
                        refine lv_iload_n hx hb dX9_draw_172 rfl (lv_at hl 5 rfl) ?_
                        refine lv_iload_n hx hb dX9_draw_173 rfl (lv_at hl 6 rfl) ?_
                        refine lv_iload hx hb dX9_draw_174 (lv_at hl 7 rfl) ?_
                        refine lv_iload hx hb dX9_draw_176 (lv_at hl 1 rfl) ?_
                        obtain ⟨_, hrec, hF⟩ := ob hF
                        obtain ⟨v178, S178, hcl, hF⟩ := ob2 hF
                        refine go_AP (r_V (rest := [.ref (ad v149)]) (As := [.int x2, .int x3, .int x4, .int v132]) C0 cb_X9_265 M.1 hrec (tX5_drawn l D cy ad A K0 hA hs hcl) (pre_A C0 hE M) hl dX9_draw_178 rfl (Nat.le_of_ble_eq_true rfl) ⟨rfl, rfl⟩ ⟨Nat.le_of_ble_eq_true rfl, Nat.le_of_ble_eq_true rfl⟩ ⟨Nat.le_of_ble_eq_true rfl, Nat.le_of_ble_eq_true rfl⟩ rfl) M (fun H locs M => ?_)
                        refine W.widen (k := 2) (n := 17) (Nat.le_of_ble_eq_true rfl) (Nat.le_of_ble_eq_true rfl) ?_
                        obtain ⟨_, hrec, hF⟩ := ob hF
                        obtain ⟨v181, S181, hcl, hF⟩ := ob2 hF
                        refine go_AI (r_V (rest := []) (As := [.ref (ad v178)]) C0 cb_X9_102 M.1 hrec (tJx4a65c_add_9ea2d l D cy ad A K0 hA hs hcl) (pre_A C0 hE M) hl dX9_draw_181 rfl (Nat.le_of_ble_eq_true rfl) ⟨rfl, rfl⟩ ⟨Nat.le_of_ble_eq_true rfl, Nat.le_of_ble_eq_true rfl⟩ ⟨Nat.le_of_ble_eq_true rfl, Nat.le_of_ble_eq_true rfl⟩ rfl) M (fun H locs M => ?_)
                        refine W.widen (k := 3) (n := 57) (Nat.le_of_ble_eq_true rfl) (Nat.le_of_ble_eq_true rfl) ?_
                        refine lv_pop hx hb dX9_draw_184 rfl ?_
                        refine lv_aload hx hb dX9_draw_185 (lv_at hl 0 rfl) ?_
                        obtain ⟨_, hrec, hF⟩ := ob hF
                        obtain ⟨v187, hcl, hF⟩ := ob hF
                        refine go_SI (r_V (rest := []) (As := []) C0 cb_X9_93 M.1 hrec (tJx4a65c_size_8abf5 l D cy ad A hcl) (pre_R C0 M.1) hl dX9_draw_187 rfl (Nat.le_of_ble_eq_true rfl) ⟨rfl, rfl⟩ ⟨Nat.le_of_ble_eq_true rfl, Nat.le_of_ble_eq_true rfl⟩ ⟨Nat.le_of_ble_eq_true rfl, Nat.le_of_ble_eq_true rfl⟩ rfl) ?_
                        refine lv_iconst (v := (1 : Int32)) hx hb dX9_draw_190 (by decide) ?_
                        refine lv_isub hx hb dX9_draw_191 ?_
                        obtain ⟨rfl, rfl⟩ := Prod.mk.inj (Option.some.inj hF)
                        exact rt_AI C0 M hr dX9_draw_192
                      · have hF := oi_f hc hF
                        refine lv_bipush (v := (-4 : Int32)) hx hb dX9_draw_163 (by decide) ?_
                        obtain ⟨rfl, rfl⟩ := Prod.mk.inj (Option.some.inj hF)
                        refine W.widen (k := 3) (n := 57) (Nat.le_of_ble_eq_true rfl) (Nat.le_of_ble_eq_true rfl) ?_
                        exact rt_AI C0 M hr dX9_draw_165
                    · have hF := oi_t hc hF
                      refine lv_bipush (v := (-3 : Int32)) hx hb dX9_draw_144 (by decide) ?_
                      obtain ⟨rfl, rfl⟩ := Prod.mk.inj (Option.some.inj hF)
                      refine W.widen (k := 3) (n := 57) (Nat.le_of_ble_eq_true rfl) (Nat.le_of_ble_eq_true rfl) ?_
                      exact rt_AI C0 M hr dX9_draw_146
                  · have hF := oi_t hc hF
                    refine lv_bipush (v := (-2 : Int32)) hx hb dX9_draw_122 (by decide) ?_
                    obtain ⟨rfl, rfl⟩ := Prod.mk.inj (Option.some.inj hF)
                    refine W.widen (k := 3) (n := 57) (Nat.le_of_ble_eq_true rfl) (Nat.le_of_ble_eq_true rfl) ?_
                    exact rt_AI C0 M hr dX9_draw_124
                · have hF := oi_f hc hF
                  refine lv_aload_n hx hb dX9_draw_91 rfl (lv_at hl 1 rfl) ?_
                  refine lv_iload hx hb dX9_draw_92 (lv_at hl 0 rfl) ?_
                  obtain ⟨_, hrec, hF⟩ := ob hF
                  obtain ⟨v94, S94, hcl, hF⟩ := ob2 hF
                  refine go_MI (r_V (rest := []) (As := [.int v81]) C0 cb_X9_159 M.1 hrec (tX9_comeTo l D cy ad A hcl) (pre_R C0 M.1) hl dX9_draw_94 rfl (Nat.le_of_ble_eq_true rfl) ⟨rfl, rfl⟩ ⟨Nat.le_of_ble_eq_true rfl, Nat.le_of_ble_eq_true rfl⟩ ⟨Nat.le_of_ble_eq_true rfl, Nat.le_of_ble_eq_true rfl⟩ rfl) M (fun H locs M => ?_)
                  obtain ⟨rfl, rfl⟩ := Prod.mk.inj (Option.some.inj hF)
                  refine W.widen (k := 3) (n := 57) (Nat.le_of_ble_eq_true rfl) (Nat.le_of_ble_eq_true rfl) ?_
                  exact rt_AI C0 M hr dX9_draw_97
              · have hF := oi_f hc hF
                exact wX9_draw_60 ad A C0 hA hs hE M hr hF (lv_sub hl [] rfl)
        · have hF := oi_t hc hF
          exact wX9_draw_40 ad A C0 hA hs hE M hr hF (lv_sub hl [] rfl)
  · have hF := oi_t hc hF
    refine lv_iconst (v := (-1 : Int32)) hx hb dX9_draw_13 (by decide) ?_
    obtain ⟨rfl, rfl⟩ := Prod.mk.inj (Option.some.inj hF)
    refine W.widen (k := 3) (n := 57) (Nat.le_of_ble_eq_true rfl) (Nat.le_of_ble_eq_true rfl) ?_
    exact rt_AI C0 M hr dX9_draw_14
set_option maxHeartbeats 4000000 in
set_option maxRecDepth 100000 in
theorem tX9_draw (l : Launch) (D : va_G) (cy : Nat → ClassId) (ad : Nat → Nat) (A : Nat → Prop) (K0 : Nat) (hA : ∀ k, 0 < k → A (ad k)) (hs : ∀ k, K0 ≤ k → ad (k + 1) + 1 = ad (k + 2)) {S S' : MS} {a0 : Nat} {a1 : Int32} {a2 : Int32} {a3 : Int32} {a4 : Int32} {a5 : Int32} {a6 : Int32} {a7 : Int32} {a8 : Int32} {r : Int32} (h : fX9_draw S a0 a1 a2 a3 a4 a5 a6 a7 a8 = some (r, S')) : Met l yX9_draw [Cond.code yX9_draw cX9_draw 12 (some .int)] rmX9_draw (PcA D cy ad A K0 S [.ref (ad a0), .int a1, .int a2, .int a3, .int a4, .int a5, .int a6, .int a7, .int a8]) (QcA D cy ad A K0 S' (some (.int r))) 3 57 A := by
  refine met_A (by decide +kernel) cw_X9_draw (Nat.le_of_ble_eq_true rfl) ?_
  intro p e s m args below meth c ls C0 hE M hr hin hl
  have hl : lv_has ls 12 [(0, .ref (ad a0)), (1, .int a1), (2, .int a2), (3, .int a3), (4, .int a4), (5, .int a5), (6, .int a6), (7, .int a7), (8, .int a8)] := hl
  exact wX9_draw_0 ad A C0 hA hs hE M hr h hl
