theorem fl_X0_9 : FL RX0 9 1 0 0 .int 0 := ⟨RX0, "ChartRoom$Chart", TX0, 10, tyX0, rfl, iu_1, tyX0_ok, nmX0, by decide, rfl, by decide, (uw_of 192 (by decide +kernel) rfl), Or.inl rfl, tyX0_ok 0 (by decide), (fun _ => rfl), (fun h => by cases h), rfl⟩
theorem fl_X0_15 : FL RX0 15 1 1 2 (.array .int) 1 := ⟨RX0, "ChartRoom$Chart", TX0, 10, tyX0, rfl, iu_1, tyX0_ok, nmX0, by decide, rfl, by decide, (uw_of 194 (by decide +kernel) rfl), Or.inl rfl, tyX0_ok 1 (by decide), (fun h => by cases h), (fun _ => ⟨rfl, rfl⟩), rfl⟩
theorem fl_X0_19 : FL RX0 19 1 2 2 (.array .int) 1 := ⟨RX0, "ChartRoom$Chart", TX0, 10, tyX0, rfl, iu_1, tyX0_ok, nmX0, by decide, rfl, by decide, (uw_of 195 (by decide +kernel) rfl), Or.inl rfl, tyX0_ok 2 (by decide), (fun h => by cases h), (fun _ => ⟨rfl, rfl⟩), rfl⟩
theorem fl_X0_22 : FL RX0 22 1 3 0 .int 0 := ⟨RX0, "ChartRoom$Chart", TX0, 10, tyX0, rfl, iu_1, tyX0_ok, nmX0, by decide, rfl, by decide, (uw_of 197 (by decide +kernel) rfl), Or.inl rfl, tyX0_ok 3 (by decide), (fun _ => rfl), (fun h => by cases h), rfl⟩
theorem fl_X0_25 : FL RX0 25 1 4 2 (.array .int) 1 := ⟨RX0, "ChartRoom$Chart", TX0, 10, tyX0, rfl, iu_1, tyX0_ok, nmX0, by decide, rfl, by decide, (uw_of 199 (by decide +kernel) rfl), Or.inl rfl, tyX0_ok 4 (by decide), (fun h => by cases h), (fun _ => ⟨rfl, rfl⟩), rfl⟩
theorem fl_X0_28 : FL RX0 28 1 5 0 .int 0 := ⟨RX0, "ChartRoom$Chart", TX0, 10, tyX0, rfl, iu_1, tyX0_ok, nmX0, by decide, rfl, by decide, (uw_of 201 (by decide +kernel) rfl), Or.inl rfl, tyX0_ok 5 (by decide), (fun _ => rfl), (fun h => by cases h), rfl⟩
theorem fl_X0_31 : FL RX0 31 1 6 0 .int 0 := ⟨RX0, "ChartRoom$Chart", TX0, 10, tyX0, rfl, iu_1, tyX0_ok, nmX0, by decide, rfl, by decide, (uw_of 203 (by decide +kernel) rfl), Or.inl rfl, tyX0_ok 6 (by decide), (fun _ => rfl), (fun h => by cases h), rfl⟩
theorem fl_X0_34 : FL RX0 34 1 7 0 .int 0 := ⟨RX0, "ChartRoom$Chart", TX0, 10, tyX0, rfl, iu_1, tyX0_ok, nmX0, by decide, rfl, by decide, (uw_of 205 (by decide +kernel) rfl), Or.inl rfl, tyX0_ok 7 (by decide), (fun _ => rfl), (fun h => by cases h), rfl⟩
theorem fl_X0_37 : FL RX0 37 1 8 2 (.array .boolean) 1 := ⟨RX0, "ChartRoom$Chart", TX0, 10, tyX0, rfl, iu_1, tyX0_ok, nmX0, by decide, rfl, by decide, (uw_of 207 (by decide +kernel) rfl), Or.inl rfl, tyX0_ok 8 (by decide), (fun h => by cases h), (fun _ => ⟨rfl, rfl⟩), rfl⟩
theorem fl_X0_41 : FL RX0 41 1 9 2 (.array .int) 1 := ⟨RX0, "ChartRoom$Chart", TX0, 10, tyX0, rfl, iu_1, tyX0_ok, nmX0, by decide, rfl, by decide, (uw_of 208 (by decide +kernel) rfl), Or.inl rfl, tyX0_ok 9 (by decide), (fun h => by cases h), (fun _ => ⟨rfl, rfl⟩), rfl⟩
theorem cw_X0_init : Cond.code yX0_init cX0_init 1 (none) ∈ UW := (uw_of 190 (by decide +kernel) rfl)
theorem nw_X1_9 : NWF RX1 9 0 3 := ⟨RJx4a65c, TJx4a65c, tyJx4a65c, rfl, iu_0, tyJx4a65c_ok, rfl, by decide, (uw_of 119 (by decide +kernel) rfl), (uw_of 120 (by decide +kernel) rfl), (uw_of 88 (by decide +kernel) rfl), by decide⟩
theorem cb_X1_11 : CBI RX1 11 yJx4a65c_init_da8c8 cJx4a65c_init_da8c8 1 0 := ⟨⟨cw_Jx4a65c_init_da8c8, ini_java_util_ArrayList, by decide, (uw_of 121 (by decide +kernel) rfl)⟩, (uw_of 122 (by decide +kernel) rfl), rfl⟩
theorem fl_X1_12 : FL RX1 12 2 0 2 (.object "java/util/ArrayList") 1 := ⟨RX1, "ChartRoom$Desk", TX1, 9, tyX1, rfl, iu_2, tyX1_ok, nmX1, by decide, rfl, by decide, (uw_of 145 (by decide +kernel) rfl), Or.inl rfl, tyX1_ok 0 (by decide), (fun h => by cases h), (fun _ => ⟨rfl, rfl⟩), rfl⟩
theorem fl_X1_18 : FL RX1 18 2 1 2 (.object "java/util/ArrayList") 1 := ⟨RX1, "ChartRoom$Desk", TX1, 9, tyX1, rfl, iu_2, tyX1_ok, nmX1, by decide, rfl, by decide, (uw_of 148 (by decide +kernel) rfl), Or.inl rfl, tyX1_ok 1 (by decide), (fun h => by cases h), (fun _ => ⟨rfl, rfl⟩), rfl⟩
theorem fl_X1_21 : FL RX1 21 2 2 0 .int 0 := ⟨RX1, "ChartRoom$Desk", TX1, 9, tyX1, rfl, iu_2, tyX1_ok, nmX1, by decide, rfl, by decide, (uw_of 151 (by decide +kernel) rfl), Or.inl rfl, tyX1_ok 2 (by decide), (fun _ => rfl), (fun h => by cases h), rfl⟩
theorem fl_X1_25 : FL RX1 25 2 3 0 .int 0 := ⟨RX1, "ChartRoom$Desk", TX1, 9, tyX1, rfl, iu_2, tyX1_ok, nmX1, by decide, rfl, by decide, (uw_of 153 (by decide +kernel) rfl), Or.inl rfl, tyX1_ok 3 (by decide), (fun _ => rfl), (fun h => by cases h), rfl⟩
theorem fl_X1_28 : FL RX1 28 2 4 2 (.array .int) 1 := ⟨RX1, "ChartRoom$Desk", TX1, 9, tyX1, rfl, iu_2, tyX1_ok, nmX1, by decide, rfl, by decide, (uw_of 155 (by decide +kernel) rfl), Or.inl rfl, tyX1_ok 4 (by decide), (fun h => by cases h), (fun _ => ⟨rfl, rfl⟩), rfl⟩
theorem fl_X1_32 : FL RX1 32 2 5 2 (.array .int) 1 := ⟨RX1, "ChartRoom$Desk", TX1, 9, tyX1, rfl, iu_2, tyX1_ok, nmX1, by decide, rfl, by decide, (uw_of 158 (by decide +kernel) rfl), Or.inl rfl, tyX1_ok 5 (by decide), (fun h => by cases h), (fun _ => ⟨rfl, rfl⟩), rfl⟩
theorem fl_X1_35 : FL RX1 35 2 6 2 (.array .int) 1 := ⟨RX1, "ChartRoom$Desk", TX1, 9, tyX1, rfl, iu_2, tyX1_ok, nmX1, by decide, rfl, by decide, (uw_of 161 (by decide +kernel) rfl), Or.inl rfl, tyX1_ok 6 (by decide), (fun h => by cases h), (fun _ => ⟨rfl, rfl⟩), rfl⟩
theorem fl_X1_38 : FL RX1 38 2 7 0 .int 0 := ⟨RX1, "ChartRoom$Desk", TX1, 9, tyX1, rfl, iu_2, tyX1_ok, nmX1, by decide, rfl, by decide, (uw_of 162 (by decide +kernel) rfl), Or.inl rfl, tyX1_ok 7 (by decide), (fun _ => rfl), (fun h => by cases h), rfl⟩
theorem fl_X1_41 : FL RX1 41 2 8 0 .int 0 := ⟨RX1, "ChartRoom$Desk", TX1, 9, tyX1, rfl, iu_2, tyX1_ok, nmX1, by decide, rfl, by decide, (uw_of 165 (by decide +kernel) rfl), Or.inl rfl, tyX1_ok 8 (by decide), (fun _ => rfl), (fun h => by cases h), rfl⟩
theorem cw_X1_init : Cond.code yX1_init cX1_init 1 (none) ∈ UW := (uw_of 117 (by decide +kernel) rfl)
theorem fl_X4_11 : FL RX4 11 5 0 2 (.array (.array .int)) 1 := ⟨RX4, "ChartRoom$Matching", TX4, 3, tyX4, rfl, iu_5, tyX4_ok, nmX4, by decide, rfl, by decide, (uw_of 257 (by decide +kernel) rfl), Or.inl rfl, tyX4_ok 0 (by decide), (fun h => by cases h), (fun _ => ⟨rfl, rfl⟩), rfl⟩
theorem fl_X4_16 : FL RX4 16 5 1 2 (.array (.array .int)) 1 := ⟨RX4, "ChartRoom$Matching", TX4, 3, tyX4, rfl, iu_5, tyX4_ok, nmX4, by decide, rfl, by decide, (uw_of 258 (by decide +kernel) rfl), Or.inl rfl, tyX4_ok 1 (by decide), (fun h => by cases h), (fun _ => ⟨rfl, rfl⟩), rfl⟩
theorem fl_X4_19 : FL RX4 19 5 2 2 (.array .int) 1 := ⟨RX4, "ChartRoom$Matching", TX4, 3, tyX4, rfl, iu_5, tyX4_ok, nmX4, by decide, rfl, by decide, (uw_of 259 (by decide +kernel) rfl), Or.inl rfl, tyX4_ok 2 (by decide), (fun h => by cases h), (fun _ => ⟨rfl, rfl⟩), rfl⟩
theorem cw_X4_init : Cond.code yX4_init cX4_init 1 (none) ∈ UW := (uw_of 253 (by decide +kernel) rfl)
theorem fl_X5_9 : FL RX5 9 6 0 2 (.array .int) 1 := ⟨RX5, "ChartRoom$Pen", TX5, 3, tyX5, rfl, iu_6, tyX5_ok, nmX5, by decide, rfl, by decide, (uw_of 239 (by decide +kernel) rfl), Or.inl rfl, tyX5_ok 0 (by decide), (fun h => by cases h), (fun _ => ⟨rfl, rfl⟩), rfl⟩
theorem fl_X5_15 : FL RX5 15 6 1 2 (.array .int) 1 := ⟨RX5, "ChartRoom$Pen", TX5, 3, tyX5, rfl, iu_6, tyX5_ok, nmX5, by decide, rfl, by decide, (uw_of 240 (by decide +kernel) rfl), Or.inl rfl, tyX5_ok 1 (by decide), (fun h => by cases h), (fun _ => ⟨rfl, rfl⟩), rfl⟩
theorem fl_X5_18 : FL RX5 18 6 2 2 (.array .int) 1 := ⟨RX5, "ChartRoom$Pen", TX5, 3, tyX5, rfl, iu_6, tyX5_ok, nmX5, by decide, rfl, by decide, (uw_of 241 (by decide +kernel) rfl), Or.inl rfl, tyX5_ok 2 (by decide), (fun h => by cases h), (fun _ => ⟨rfl, rfl⟩), rfl⟩
theorem cw_X5_init : Cond.code yX5_init cX5_init 1 (none) ∈ UW := (uw_of 237 (by decide +kernel) rfl)
theorem fl_X7_11 : FL RX7 11 8 0 0 .int 0 := ⟨RX7, "ChartRoom$Sheet", TX7, 3, tyX7, rfl, iu_8, tyX7_ok, nmX7, by decide, rfl, by decide, (uw_of 276 (by decide +kernel) rfl), Or.inl rfl, tyX7_ok 0 (by decide), (fun _ => rfl), (fun h => by cases h), rfl⟩
theorem fl_X7_15 : FL RX7 15 8 1 0 .int 0 := ⟨RX7, "ChartRoom$Sheet", TX7, 3, tyX7, rfl, iu_8, tyX7_ok, nmX7, by decide, rfl, by decide, (uw_of 278 (by decide +kernel) rfl), Or.inl rfl, tyX7_ok 1 (by decide), (fun _ => rfl), (fun h => by cases h), rfl⟩
theorem fl_X7_18 : FL RX7 18 8 2 2 (.array .int) 1 := ⟨RX7, "ChartRoom$Sheet", TX7, 3, tyX7, rfl, iu_8, tyX7_ok, nmX7, by decide, rfl, by decide, (uw_of 279 (by decide +kernel) rfl), Or.inl rfl, tyX7_ok 2 (by decide), (fun h => by cases h), (fun _ => ⟨rfl, rfl⟩), rfl⟩
theorem cw_X7_init : Cond.code yX7_init cX7_init 1 (none) ∈ UW := (uw_of 274 (by decide +kernel) rfl)
theorem cw_X9_isIn : Cond.code yX9_isIn cX9_isIn 2 (some .boolean) ∈ UW := (uw_of 534 (by decide +kernel) rfl)
theorem cw_X9_isBelow : Cond.code yX9_isBelow cX9_isBelow 2 (some .boolean) ∈ UW := (uw_of 334 (by decide +kernel) rfl)
theorem fl_X9_12 : FL RX9 12 10 0 2 (.object "ChartRoom$Desk") 1 := ⟨RX9, "ChartRoom", TX9, 13, tyX9, rfl, iu_10, tyX9_ok, nmX9, by decide, rfl, by decide, (uw_of 288 (by decide +kernel) rfl), Or.inl rfl, tyX9_ok 0 (by decide), (fun h => by cases h), (fun _ => ⟨rfl, rfl⟩), rfl⟩
theorem fl_X9_90 : FL RX9 90 2 0 2 (.object "java/util/ArrayList") 2 := ⟨RX1, "ChartRoom$Desk", TX1, 9, tyX1, rfl, iu_2, tyX1_ok, nmX1, by decide, rfl, by decide, (uw_of 147 (by decide +kernel) rfl), Or.inl rfl, tyX1_ok 0 (by decide), (fun h => by cases h), (fun h => by cases h), rfl⟩
theorem cb_X9_93 : CBV RX9 93 yJx4a65c_size_8abf5 cJx4a65c_size_8abf5 1 (some .int) 0 0 := ⟨⟨cw_Jx4a65c_size_8abf5, ini_java_util_ArrayList, by decide, (uw_of 341 (by decide +kernel) rfl)⟩, (uw_of 342 (by decide +kernel) rfl), (uw_of 343 (by decide +kernel) rfl), by decide, TJx4a65c, 3, rfl⟩
theorem ini_ChartRoom : Cond.initialized "ChartRoom" ∈ UW := (uw_of 84 (by decide +kernel) rfl)
theorem cb_X9_79 : CBS RX9 79 yX9_isBelow cX9_isBelow 2 (some .boolean) 2 := ⟨⟨cw_X9_isBelow, ini_ChartRoom, by decide, (uw_of 332 (by decide +kernel) rfl)⟩, (uw_of 333 (by decide +kernel) rfl)⟩
theorem cw_X9_isPost : Cond.code yX9_isPost cX9_isPost 2 (some .boolean) ∈ UW := (uw_of 503 (by decide +kernel) rfl)
theorem cb_X0_87 : CNS RX0 87 yX9_isIn "ChartRoom" cX9_isIn 2 (some .boolean) 2 := ⟨⟨cw_X9_isIn, ini_ChartRoom, by decide, (uw_of 551 (by decide +kernel) rfl)⟩, (uw_of 533 (by decide +kernel) rfl)⟩
theorem cw_X0_leavesPeace : Cond.code yX0_leavesPeace cX0_leavesPeace 4 (some .boolean) ∈ UW := (uw_of 571 (by decide +kernel) rfl)
theorem ini_java_lang_Integer : Cond.initialized "java/lang/Integer" ∈ UW := (uw_of 101 (by decide +kernel) rfl)
theorem cb_X0_102 : CBS RX0 102 yJ6_bitCount_0f7a4 cJ6_bitCount_0f7a4 1 (some .int) 1 := ⟨⟨cw_J6_bitCount_0f7a4, ini_java_lang_Integer, by decide, (uw_of 562 (by decide +kernel) rfl)⟩, (uw_of 563 (by decide +kernel) rfl)⟩
theorem ini_ChartRoom_Chart : Cond.initialized "ChartRoom$Chart" ∈ UW := (uw_of 89 (by decide +kernel) rfl)
theorem cb_X0_107 : CBV RX0 107 yX0_leavesPeace cX0_leavesPeace 4 (some .boolean) 2 1 := ⟨⟨cw_X0_leavesPeace, ini_ChartRoom_Chart, by decide, (uw_of 568 (by decide +kernel) rfl)⟩, (uw_of 570 (by decide +kernel) rfl), (uw_of 12 (by decide +kernel) rfl), by decide, TX0, 10, rfl⟩
theorem cw_X0_fewestDoubts : Cond.code yX0_fewestDoubts cX0_fewestDoubts 6 (some .int) ∈ UW := (uw_of 561 (by decide +kernel) rfl)
theorem cb_X9_388 : CBS RX9 388 yJ9_abs_0f7a4 cJ9_abs_0f7a4 1 (some .int) 1 := ⟨⟨cw_J9_abs_0f7a4, ini_java_lang_Math, by decide, (uw_of 555 (by decide +kernel) rfl)⟩, (uw_of 545 (by decide +kernel) rfl)⟩
theorem cb_X9_393 : CBS RX9 393 yJ9_max_7cf53 cJ9_max_7cf53 2 (some .int) 2 := ⟨⟨cw_J9_max_7cf53, ini_java_lang_Math, by decide, (uw_of 556 (by decide +kernel) rfl)⟩, (uw_of 395 (by decide +kernel) rfl)⟩
theorem cw_X9_stepsBetween : Cond.code yX9_stepsBetween cX9_stepsBetween 4 (some .int) ∈ UW := (uw_of 554 (by decide +kernel) rfl)
theorem fl_X0_80 : FL RX0 80 2 7 0 .int 0 := ⟨RX1, "ChartRoom$Desk", TX1, 9, tyX1, rfl, iu_2, tyX1_ok, nmX1, by decide, rfl, by decide, (uw_of 163 (by decide +kernel) rfl), Or.inl rfl, tyX1_ok 7 (by decide), (fun _ => rfl), (fun h => by cases h), rfl⟩
theorem fl_X0_44 : FL RX0 44 2 0 2 (.object "java/util/ArrayList") 2 := ⟨RX1, "ChartRoom$Desk", TX1, 9, tyX1, rfl, iu_2, tyX1_ok, nmX1, by decide, rfl, by decide, (uw_of 146 (by decide +kernel) rfl), Or.inl rfl, tyX1_ok 0 (by decide), (fun h => by cases h), (fun h => by cases h), rfl⟩
theorem cb_X0_50 : CBV RX0 50 yJx4a65c_size_8abf5 cJx4a65c_size_8abf5 1 (some .int) 0 0 := ⟨⟨cw_Jx4a65c_size_8abf5, ini_java_util_ArrayList, by decide, (uw_of 517 (by decide +kernel) rfl)⟩, (uw_of 342 (by decide +kernel) rfl), (uw_of 343 (by decide +kernel) rfl), by decide, TJx4a65c, 3, rfl⟩
theorem fl_X0_91 : FL RX0 91 2 4 2 (.array .int) 2 := ⟨RX1, "ChartRoom$Desk", TX1, 9, tyX1, rfl, iu_2, tyX1_ok, nmX1, by decide, rfl, by decide, (uw_of 156 (by decide +kernel) rfl), Or.inl rfl, tyX1_ok 4 (by decide), (fun h => by cases h), (fun h => by cases h), rfl⟩
theorem cb_X0_94 : CNS RX0 94 yX9_stepsBetween "ChartRoom" cX9_stepsBetween 4 (some .int) 2 := ⟨⟨cw_X9_stepsBetween, ini_ChartRoom, by decide, (uw_of 552 (by decide +kernel) rfl)⟩, (uw_of 553 (by decide +kernel) rfl)⟩
theorem cb_X0_97 : CBS RX0 97 yJ9_abs_0f7a4 cJ9_abs_0f7a4 1 (some .int) 1 := ⟨⟨cw_J9_abs_0f7a4, ini_java_lang_Math, by decide, (uw_of 557 (by decide +kernel) rfl)⟩, (uw_of 545 (by decide +kernel) rfl)⟩
theorem cw_X0_rivalsOf : Cond.code yX0_rivalsOf cX0_rivalsOf 6 (some .int) ∈ UW := (uw_of 550 (by decide +kernel) rfl)
theorem cw_X9_farBetween : Cond.code yX9_farBetween cX9_farBetween 4 (some .int) ∈ UW := (uw_of 537 (by decide +kernel) rfl)
theorem cb_X1_44 : CBV RX1 44 yJx4a65c_size_8abf5 cJx4a65c_size_8abf5 1 (some .int) 0 0 := ⟨⟨cw_Jx4a65c_size_8abf5, ini_java_util_ArrayList, by decide, (uw_of 442 (by decide +kernel) rfl)⟩, (uw_of 342 (by decide +kernel) rfl), (uw_of 343 (by decide +kernel) rfl), by decide, TJx4a65c, 3, rfl⟩
theorem cb_X1_80 : CNS RX1 80 yX9_isIn "ChartRoom" cX9_isIn 2 (some .boolean) 2 := ⟨⟨cw_X9_isIn, ini_ChartRoom, by decide, (uw_of 532 (by decide +kernel) rfl)⟩, (uw_of 533 (by decide +kernel) rfl)⟩
theorem cb_X1_84 : CNS RX1 84 yX9_farBetween "ChartRoom" cX9_farBetween 4 (some .int) 2 := ⟨⟨cw_X9_farBetween, ini_ChartRoom, by decide, (uw_of 535 (by decide +kernel) rfl)⟩, (uw_of 536 (by decide +kernel) rfl)⟩
theorem cw_X1_nearestOf : Cond.code yX1_nearestOf cX1_nearestOf 7 (some .int) ∈ UW := (uw_of 531 (by decide +kernel) rfl)
theorem fl_X1_54 : FL RX1 54 9 0 0 .int 2 := ⟨RX8, "ChartRoom$Wire", TX8, 6, tyX8, rfl, iu_9, tyX8_ok, nmX8, by decide, rfl, by decide, (uw_of 629 (by decide +kernel) rfl), Or.inl rfl, tyX8_ok 0 (by decide), (fun h => by cases h), (fun h => by cases h), rfl⟩
theorem cb_X1_90 : CBS RX1 90 yJ9_floorDiv_7cf53 cJ9_floorDiv_7cf53 3 (some .int) 2 := ⟨⟨cw_J9_floorDiv_7cf53, ini_java_lang_Math, by decide, (uw_of 538 (by decide +kernel) rfl)⟩, (uw_of 467 (by decide +kernel) rfl)⟩
theorem ini_ChartRoom_Desk : Cond.initialized "ChartRoom$Desk" ∈ UW := (uw_of 85 (by decide +kernel) rfl)
theorem cb_X1_87 : CBV RX1 87 yX1_nearestOf cX1_nearestOf 7 (some .int) 2 2 := ⟨⟨cw_X1_nearestOf, ini_ChartRoom_Desk, by decide, (uw_of 528 (by decide +kernel) rfl)⟩, (uw_of 529 (by decide +kernel) rfl), (uw_of 530 (by decide +kernel) rfl), by decide, TX1, 9, rfl⟩
theorem cw_X1_guessFor : Cond.code yX1_guessFor cX1_guessFor 7 (some .int) ∈ UW := (uw_of 527 (by decide +kernel) rfl)
theorem fl_X8_15 : FL RX8 15 9 3 0 .int 1 := ⟨RX8, "ChartRoom$Wire", TX8, 6, tyX8, rfl, iu_9, tyX8_ok, nmX8, by decide, rfl, by decide, (uw_of 637 (by decide +kernel) rfl), Or.inl rfl, tyX8_ok 3 (by decide), (fun h => by cases h), (fun _ => ⟨rfl, rfl⟩), rfl⟩
theorem cb_X8_50 : CBS RX8 50 yJ9_floorDiv_7cf53 cJ9_floorDiv_7cf53 3 (some .int) 2 := ⟨⟨cw_J9_floorDiv_7cf53, ini_java_lang_Math, by decide, (uw_of 495 (by decide +kernel) rfl)⟩, (uw_of 467 (by decide +kernel) rfl)⟩
theorem cw_X8_levelOf : Cond.code yX8_levelOf cX8_levelOf 4 (some .int) ∈ UW := (uw_of 494 (by decide +kernel) rfl)
theorem fl_X8_24 : FL RX8 24 9 4 2 (.array .int) 1 := ⟨RX8, "ChartRoom$Wire", TX8, 6, tyX8, rfl, iu_9, tyX8_ok, nmX8, by decide, rfl, by decide, (uw_of 638 (by decide +kernel) rfl), Or.inl rfl, tyX8_ok 4 (by decide), (fun h => by cases h), (fun _ => ⟨rfl, rfl⟩), rfl⟩
theorem cw_X8_countFillings : Cond.code yX8_countFillings cX8_countFillings 4 (some .int) ∈ UW := (uw_of 486 (by decide +kernel) rfl)
theorem cw_X8_filled : Cond.code yX8_filled cX8_filled 10 (some .int) ∈ UW := (uw_of 490 (by decide +kernel) rfl)
theorem ini_ChartRoom_Wire : Cond.initialized "ChartRoom$Wire" ∈ UW := (uw_of 102 (by decide +kernel) rfl)
theorem cb_X8_35 : CBV RX8 35 yX8_countFillings cX8_countFillings 4 (some .int) 1 9 := ⟨⟨cw_X8_countFillings, ini_ChartRoom_Wire, by decide, (uw_of 482 (by decide +kernel) rfl)⟩, (uw_of 484 (by decide +kernel) rfl), (uw_of 6 (by decide +kernel) rfl), by decide, TX8, 6, rfl⟩
theorem cb_X8_38 : CBV RX8 38 yX8_filled cX8_filled 10 (some .int) 2 9 := ⟨⟨cw_X8_filled, ini_ChartRoom_Wire, by decide, (uw_of 487 (by decide +kernel) rfl)⟩, (uw_of 489 (by decide +kernel) rfl), (uw_of 7 (by decide +kernel) rfl), by decide, TX8, 6, rfl⟩
theorem cb_X8_42 : CBV RX8 42 yX8_levelOf cX8_levelOf 4 (some .int) 1 9 := ⟨⟨cw_X8_levelOf, ini_ChartRoom_Wire, by decide, (uw_of 543 (by decide +kernel) rfl)⟩, (uw_of 492 (by decide +kernel) rfl), (uw_of 493 (by decide +kernel) rfl), by decide, TX8, 6, rfl⟩
theorem cb_X8_45 : CBS RX8 45 yJ9_abs_0f7a4 cJ9_abs_0f7a4 1 (some .int) 1 := ⟨⟨cw_J9_abs_0f7a4, ini_java_lang_Math, by decide, (uw_of 544 (by decide +kernel) rfl)⟩, (uw_of 545 (by decide +kernel) rfl)⟩
theorem cw_X8_nearestPress : Cond.code yX8_nearestPress cX8_nearestPress 8 (some .int) ∈ UW := (uw_of 542 (by decide +kernel) rfl)
theorem cb_X1_95 : CBV RX1 95 yX1_guessFor cX1_guessFor 7 (some .int) 1 2 := ⟨⟨cw_X1_guessFor, ini_ChartRoom_Desk, by decide, (uw_of 524 (by decide +kernel) rfl)⟩, (uw_of 525 (by decide +kernel) rfl), (uw_of 526 (by decide +kernel) rfl), by decide, TX1, 9, rfl⟩
theorem cb_X1_99 : CBV RX1 99 yX8_nearestPress cX8_nearestPress 8 (some .int) 1 9 := ⟨⟨cw_X8_nearestPress, ini_ChartRoom_Wire, by decide, (uw_of 539 (by decide +kernel) rfl)⟩, (uw_of 540 (by decide +kernel) rfl), (uw_of 541 (by decide +kernel) rfl), by decide, TX8, 6, rfl⟩
theorem cb_X1_73 : CBV RX1 73 yX8_levelOf cX8_levelOf 4 (some .int) 1 9 := ⟨⟨cw_X8_levelOf, ini_ChartRoom_Wire, by decide, (uw_of 491 (by decide +kernel) rfl)⟩, (uw_of 492 (by decide +kernel) rfl), (uw_of 493 (by decide +kernel) rfl), by decide, TX8, 6, rfl⟩
theorem cw_X1_mendedLevel : Cond.code yX1_mendedLevel cX1_mendedLevel 2 (some .int) ∈ UW := (uw_of 523 (by decide +kernel) rfl)
theorem fl_X0_56 : FL RX0 56 2 5 2 (.array .int) 2 := ⟨RX1, "ChartRoom$Desk", TX1, 9, tyX1, rfl, iu_2, tyX1_ok, nmX1, by decide, rfl, by decide, (uw_of 159 (by decide +kernel) rfl), Or.inl rfl, tyX1_ok 5 (by decide), (fun h => by cases h), (fun h => by cases h), rfl⟩
theorem fl_X0_59 : FL RX0 59 2 1 2 (.object "java/util/ArrayList") 2 := ⟨RX1, "ChartRoom$Desk", TX1, 9, tyX1, rfl, iu_2, tyX1_ok, nmX1, by decide, rfl, by decide, (uw_of 149 (by decide +kernel) rfl), Or.inl rfl, tyX1_ok 1 (by decide), (fun h => by cases h), (fun h => by cases h), rfl⟩
theorem cb_X0_62 : CBV RX0 62 yJx4a65c_get_915e3 cJx4a65c_get_915e3 2 ((some (.object "java/lang/Object"))) 1 0 := ⟨⟨cw_Jx4a65c_get_915e3, ini_java_util_ArrayList, by decide, (uw_of 518 (by decide +kernel) rfl)⟩, (uw_of 444 (by decide +kernel) rfl), (uw_of 445 (by decide +kernel) rfl), by decide, TJx4a65c, 3, rfl⟩
theorem cb_X0_68 : CBV RX0 68 yX1_mendedLevel cX1_mendedLevel 2 (some .int) 1 2 := ⟨⟨cw_X1_mendedLevel, ini_ChartRoom_Desk, by decide, (uw_of 520 (by decide +kernel) rfl)⟩, (uw_of 521 (by decide +kernel) rfl), (uw_of 522 (by decide +kernel) rfl), by decide, TX1, 9, rfl⟩
theorem cb_X0_76 : CBV RX0 76 yX0_fewestDoubts cX0_fewestDoubts 6 (some .int) 1 1 := ⟨⟨cw_X0_fewestDoubts, ini_ChartRoom_Chart, by decide, (uw_of 558 (by decide +kernel) rfl)⟩, (uw_of 560 (by decide +kernel) rfl), (uw_of 11 (by decide +kernel) rfl), by decide, TX0, 10, rfl⟩
theorem cb_X0_72 : CBV RX0 72 yX0_rivalsOf cX0_rivalsOf 6 (some .int) 2 1 := ⟨⟨cw_X0_rivalsOf, ini_ChartRoom_Chart, by decide, (uw_of 547 (by decide +kernel) rfl)⟩, (uw_of 549 (by decide +kernel) rfl), (uw_of 10 (by decide +kernel) rfl), by decide, TX0, 10, rfl⟩
theorem cb_X0_83 : CBV RX0 83 yX1_nearestOf cX1_nearestOf 7 (some .int) 2 2 := ⟨⟨cw_X1_nearestOf, ini_ChartRoom_Desk, by decide, (uw_of 572 (by decide +kernel) rfl)⟩, (uw_of 529 (by decide +kernel) rfl), (uw_of 530 (by decide +kernel) rfl), by decide, TX1, 9, rfl⟩
theorem cw_X0_settle : Cond.code yX0_settle cX0_settle 6 (none) ∈ UW := (uw_of 516 (by decide +kernel) rfl)
theorem fl_X9_21 : FL RX9 21 10 1 2 (.object "ChartRoom$Chart") 1 := ⟨RX9, "ChartRoom", TX9, 13, tyX9, rfl, iu_10, tyX9_ok, nmX9, by decide, rfl, by decide, (uw_of 289 (by decide +kernel) rfl), Or.inl rfl, tyX9_ok 1 (by decide), (fun h => by cases h), (fun _ => ⟨rfl, rfl⟩), rfl⟩
theorem fl_X9_25 : FL RX9 25 10 2 0 .boolean 0 := ⟨RX9, "ChartRoom", TX9, 13, tyX9, rfl, iu_10, tyX9_ok, nmX9, by decide, rfl, by decide, (uw_of 290 (by decide +kernel) rfl), Or.inl rfl, tyX9_ok 2 (by decide), (fun _ => rfl), (fun h => by cases h), rfl⟩
theorem cb_X9_378 : CBV RX9 378 yX0_settle cX0_settle 6 (none) 1 1 := ⟨⟨cw_X0_settle, ini_ChartRoom_Chart, by decide, (uw_of 513 (by decide +kernel) rfl)⟩, (uw_of 514 (by decide +kernel) rfl), (uw_of 515 (by decide +kernel) rfl), by decide, TX0, 10, rfl⟩
theorem cw_X9_settledChart : Cond.code yX9_settledChart cX9_settledChart 1 ((some (.object "ChartRoom$Chart"))) ∈ UW := (uw_of 512 (by decide +kernel) rfl)
theorem cb_X1_48 : CBV RX1 48 yJx4a65c_get_915e3 cJx4a65c_get_915e3 2 ((some (.object "java/lang/Object"))) 1 0 := ⟨⟨cw_Jx4a65c_get_915e3, ini_java_util_ArrayList, by decide, (uw_of 443 (by decide +kernel) rfl)⟩, (uw_of 444 (by decide +kernel) rfl), (uw_of 445 (by decide +kernel) rfl), by decide, TJx4a65c, 3, rfl⟩
theorem cw_X1_countWiresOf : Cond.code yX1_countWiresOf cX1_countWiresOf 4 (some .int) ∈ UW := (uw_of 508 (by decide +kernel) rfl)
theorem cb_X9_109 : CBV RX9 109 yX9_isPost cX9_isPost 2 (some .boolean) 1 10 := ⟨⟨cw_X9_isPost, ini_ChartRoom, by decide, (uw_of 500 (by decide +kernel) rfl)⟩, (uw_of 502 (by decide +kernel) rfl), (uw_of 8 (by decide +kernel) rfl), by decide, TX9, 13, rfl⟩
theorem cb_X9_113 : CBV RX9 113 yJx4a65c_get_915e3 cJx4a65c_get_915e3 2 ((some (.object "java/lang/Object"))) 1 0 := ⟨⟨cw_Jx4a65c_get_915e3, ini_java_util_ArrayList, by decide, (uw_of 504 (by decide +kernel) rfl)⟩, (uw_of 444 (by decide +kernel) rfl), (uw_of 445 (by decide +kernel) rfl), by decide, TJx4a65c, 3, rfl⟩
theorem fl_X9_117 : FL RX9 117 7 0 0 .int 2 := ⟨RX6, "ChartRoom$Post", TX6, 6, tyX6, rfl, iu_7, tyX6_ok, nmX6, by decide, rfl, by decide, (uw_of 352 (by decide +kernel) rfl), Or.inl rfl, tyX6_ok 0 (by decide), (fun h => by cases h), (fun h => by cases h), rfl⟩
theorem fl_X9_120 : FL RX9 120 7 1 0 .int 2 := ⟨RX6, "ChartRoom$Post", TX6, 6, tyX6, rfl, iu_7, tyX6_ok, nmX6, by decide, rfl, by decide, (uw_of 354 (by decide +kernel) rfl), Or.inl rfl, tyX6_ok 1 (by decide), (fun h => by cases h), (fun h => by cases h), rfl⟩
theorem fl_X9_123 : FL RX9 123 7 2 0 .int 2 := ⟨RX6, "ChartRoom$Post", TX6, 6, tyX6, rfl, iu_7, tyX6_ok, nmX6, by decide, rfl, by decide, (uw_of 356 (by decide +kernel) rfl), Or.inl rfl, tyX6_ok 2 (by decide), (fun h => by cases h), (fun h => by cases h), rfl⟩
theorem fl_X9_126 : FL RX9 126 7 3 0 .int 2 := ⟨RX6, "ChartRoom$Post", TX6, 6, tyX6, rfl, iu_7, tyX6_ok, nmX6, by decide, rfl, by decide, (uw_of 358 (by decide +kernel) rfl), Or.inl rfl, tyX6_ok 3 (by decide), (fun h => by cases h), (fun h => by cases h), rfl⟩
theorem cb_X9_129 : CBV RX9 129 yX1_countWiresOf cX1_countWiresOf 4 (some .int) 1 2 := ⟨⟨cw_X1_countWiresOf, ini_ChartRoom_Desk, by decide, (uw_of 505 (by decide +kernel) rfl)⟩, (uw_of 506 (by decide +kernel) rfl), (uw_of 507 (by decide +kernel) rfl), by decide, TX1, 9, rfl⟩
theorem fl_X9_133 : FL RX9 133 2 5 2 (.array .int) 2 := ⟨RX1, "ChartRoom$Desk", TX1, 9, tyX1, rfl, iu_2, tyX1_ok, nmX1, by decide, rfl, by decide, (uw_of 160 (by decide +kernel) rfl), Or.inl rfl, tyX1_ok 5 (by decide), (fun h => by cases h), (fun h => by cases h), rfl⟩
theorem cb_X9_137 : CBV RX9 137 yX9_settledChart cX9_settledChart 1 ((some (.object "ChartRoom$Chart"))) 0 10 := ⟨⟨cw_X9_settledChart, ini_ChartRoom, by decide, (uw_of 509 (by decide +kernel) rfl)⟩, (uw_of 511 (by decide +kernel) rfl), (uw_of 9 (by decide +kernel) rfl), by decide, TX9, 13, rfl⟩
theorem fl_X9_141 : FL RX9 141 1 3 0 .int 0 := ⟨RX0, "ChartRoom$Chart", TX0, 10, tyX0, rfl, iu_1, tyX0_ok, nmX0, by decide, rfl, by decide, (uw_of 198 (by decide +kernel) rfl), Or.inl rfl, tyX0_ok 3 (by decide), (fun _ => rfl), (fun h => by cases h), rfl⟩
theorem cb_X9_144 : CBS RX9 144 yX9_isIn cX9_isIn 2 (some .boolean) 2 := ⟨⟨cw_X9_isIn, ini_ChartRoom, by decide, (uw_of 573 (by decide +kernel) rfl)⟩, (uw_of 533 (by decide +kernel) rfl)⟩
theorem cw_X9_about : Cond.code yX9_about cX9_about 4 (some .int) ∈ UW := (uw_of 499 (by decide +kernel) rfl)
theorem fl_X9_76 : FL RX9 76 10 12 0 .int 0 := ⟨RX9, "ChartRoom", TX9, 13, tyX9, rfl, iu_10, tyX9_ok, nmX9, by decide, rfl, by decide, (uw_of 300 (by decide +kernel) rfl), Or.inl rfl, tyX9_ok 12 (by decide), (fun _ => rfl), (fun h => by cases h), rfl⟩
theorem cw_X9_comeTo : Cond.code yX9_comeTo cX9_comeTo 2 (some .int) ∈ UW := (uw_of 602 (by decide +kernel) rfl)
theorem cb_X9_159 : CBV RX9 159 yX9_comeTo cX9_comeTo 2 (some .int) 1 10 := ⟨⟨cw_X9_comeTo, ini_ChartRoom, by decide, (uw_of 599 (by decide +kernel) rfl)⟩, (uw_of 601 (by decide +kernel) rfl), (uw_of 13 (by decide +kernel) rfl), by decide, TX9, 13, rfl⟩
theorem cw_X9_as : Cond.code yX9_as cX9_as 3 (some .int) ∈ UW := (uw_of 1048 (by decide +kernel) rfl)
abbrev rmX0_init : Room := { frames := 1, cells := 5, slots := 456, locals := 20 }
abbrev rmX1_init : Room := { frames := 4, cells := 5, slots := 42, locals := 80 }
abbrev rmX4_init : Room := { frames := 1, cells := 14, slots := 233, locals := 20 }
abbrev rmX5_init : Room := { frames := 1, cells := 3, slots := 888, locals := 20 }
abbrev rmX7_init : Room := { frames := 1, cells := 1, slots := 60, locals := 20 }
abbrev rmX9_isIn : Room := { frames := 0, cells := 0, slots := 0, locals := 0 }
abbrev rmX9_isBelow : Room := { frames := 0, cells := 0, slots := 0, locals := 0 }
abbrev rmX9_isPost : Room := { frames := 1, cells := 0, slots := 0, locals := 21 }
abbrev rmX0_leavesPeace : Room := { frames := 1, cells := 0, slots := 0, locals := 21 }
abbrev rmX0_fewestDoubts : Room := { frames := 2, cells := 0, slots := 0, locals := 44 }
abbrev rmX9_stepsBetween : Room := { frames := 1, cells := 0, slots := 0, locals := 21 }
abbrev rmX0_rivalsOf : Room := { frames := 2, cells := 0, slots := 0, locals := 44 }
abbrev rmX9_farBetween : Room := { frames := 0, cells := 0, slots := 0, locals := 0 }
abbrev rmX1_nearestOf : Room := { frames := 1, cells := 0, slots := 0, locals := 23 }
abbrev rmX1_guessFor : Room := { frames := 2, cells := 0, slots := 0, locals := 49 }
abbrev rmX8_levelOf : Room := { frames := 1, cells := 0, slots := 0, locals := 22 }
abbrev rmX8_countFillings : Room := { frames := 0, cells := 0, slots := 0, locals := 0 }
abbrev rmX8_filled : Room := { frames := 0, cells := 0, slots := 0, locals := 0 }
abbrev rmX8_nearestPress : Room := { frames := 2, cells := 0, slots := 0, locals := 45 }
abbrev rmX1_mendedLevel : Room := { frames := 3, cells := 0, slots := 0, locals := 75 }
abbrev rmX0_settle : Room := { frames := 4, cells := 0, slots := 0, locals := 96 }
abbrev rmX9_settledChart : Room := { frames := 5, cells := 0, slots := 0, locals := 121 }
abbrev rmX1_countWiresOf : Room := { frames := 3, cells := 0, slots := 0, locals := 64 }
abbrev rmX9_about : Room := { frames := 6, cells := 0, slots := 0, locals := 141 }
abbrev rmX9_comeTo : Room := { frames := 0, cells := 0, slots := 0, locals := 0 }
abbrev rmX9_as : Room := { frames := 3, cells := 0, slots := 0, locals := 64 }
noncomputable def bX0_init_0 (S : MS) (x0 : Nat) : Option MS :=
  (o_sI S x0 1 0 (60 : Int32)).bind fun S7 =>
  (o_le 12 (12 : Int32)).bind fun n13 =>
  (some (m_n S7 + 1)).bind fun o13 =>
  (some (m_new S7 12 n13)).bind fun S13 =>
  (o_sP S13 x0 1 1 o13).bind fun S15 =>
  (o_le 12 (12 : Int32)).bind fun n21 =>
  (some (m_n S15 + 1)).bind fun o21 =>
  (some (m_new S15 12 n21)).bind fun S21 =>
  (o_sP S21 x0 1 2 o21).bind fun S23 =>
  (o_sI S23 x0 1 3 (0 : Int32)).bind fun S28 =>
  (o_le 144 (144 : Int32)).bind fun n35 =>
  (some (m_n S28 + 1)).bind fun o35 =>
  (some (m_new S28 12 n35)).bind fun S35 =>
  (o_sP S35 x0 1 4 o35).bind fun S37 =>
  (o_sI S37 x0 1 5 (0 : Int32)).bind fun S42 =>
  (o_sI S42 x0 1 6 (0 : Int32)).bind fun S47 =>
  (o_sI S47 x0 1 7 (0 : Int32)).bind fun S52 =>
  (o_le 144 (144 : Int32)).bind fun n59 =>
  (some (m_n S52 + 1)).bind fun o59 =>
  (some (m_new S52 13 n59)).bind fun S59 =>
  (o_sP S59 x0 1 8 o59).bind fun S61 =>
  (o_le 144 (144 : Int32)).bind fun n68 =>
  (some (m_n S61 + 1)).bind fun o68 =>
  (some (m_new S61 12 n68)).bind fun S68 =>
  (o_sP S68 x0 1 9 o68).bind fun S70 =>
  some S70
noncomputable def fX0_init (S : MS) (a0 : Nat) : Option MS := bX0_init_0 S a0
noncomputable def bX1_init_0 (S : MS) (x0 : Nat) : Option MS :=
  (some (m_n S + 1)).bind fun o5 =>
  (some (m_new S 0 0)).bind fun S5 =>
  (fJx4a65c_init_da8c8 S5 o5).bind fun S9 =>
  (o_sP S9 x0 2 0 o5).bind fun S12 =>
  (some (m_n S12 + 1)).bind fun o16 =>
  (some (m_new S12 0 0)).bind fun S16 =>
  (fJx4a65c_init_da8c8 S16 o16).bind fun S20 =>
  (o_sP S20 x0 2 1 o16).bind fun S23 =>
  (o_sI S23 x0 2 2 (0 : Int32)).bind fun S28 =>
  (o_sI S28 x0 2 3 (99 : Int32)).bind fun S34 =>
  (o_le 12 (12 : Int32)).bind fun n40 =>
  (some (m_n S34 + 1)).bind fun o40 =>
  (some (m_new S34 12 n40)).bind fun S40 =>
  (o_sP S40 x0 2 4 o40).bind fun S42 =>
  (o_le 12 (12 : Int32)).bind fun n48 =>
  (some (m_n S42 + 1)).bind fun o48 =>
  (some (m_new S42 12 n48)).bind fun S48 =>
  (o_sP S48 x0 2 5 o48).bind fun S50 =>
  (o_le 12 (12 : Int32)).bind fun n56 =>
  (some (m_n S50 + 1)).bind fun o56 =>
  (some (m_new S50 12 n56)).bind fun S56 =>
  (o_sP S56 x0 2 6 o56).bind fun S58 =>
  (o_sI S58 x0 2 7 (0 : Int32)).bind fun S63 =>
  (o_sI S63 x0 2 8 (0 : Int32)).bind fun S68 =>
  some S68
noncomputable def fX1_init (S : MS) (a0 : Nat) : Option MS := bX1_init_0 S a0
noncomputable def bX4_init_0 (S : MS) (x0 : Nat) : Option MS :=
  (some (m_n S + 1)).bind fun o7 =>
  (some (m_grid S 5 5)).bind fun S7 =>
  (o_sP S7 x0 5 0 o7).bind fun S11 =>
  (some (m_n S11 + 1)).bind fun o19 =>
  (some (m_grid S11 6 32)).bind fun S19 =>
  (o_sP S19 x0 5 1 o19).bind fun S23 =>
  (o_le 5 (5 : Int32)).bind fun n28 =>
  (some (m_n S23 + 1)).bind fun o28 =>
  (some (m_new S23 12 n28)).bind fun S28 =>
  (o_sP S28 x0 5 2 o28).bind fun S30 =>
  some S30
noncomputable def fX4_init (S : MS) (a0 : Nat) : Option MS := bX4_init_0 S a0
noncomputable def bX5_init_0 (S : MS) (x0 : Nat) : Option MS :=
  (o_le 12 (12 : Int32)).bind fun n7 =>
  (some (m_n S + 1)).bind fun o7 =>
  (some (m_new S 12 n7)).bind fun S7 =>
  (o_sP S7 x0 6 0 o7).bind fun S9 =>
  (o_le 12 (12 : Int32)).bind fun n15 =>
  (some (m_n S9 + 1)).bind fun o15 =>
  (some (m_new S9 12 n15)).bind fun S15 =>
  (o_sP S15 x0 6 1 o15).bind fun S17 =>
  (o_le 864 (864 : Int32)).bind fun n24 =>
  (some (m_n S17 + 1)).bind fun o24 =>
  (some (m_new S17 12 n24)).bind fun S24 =>
  (o_sP S24 x0 6 2 o24).bind fun S26 =>
  some S26
noncomputable def fX5_init (S : MS) (a0 : Nat) : Option MS := bX5_init_0 S a0
noncomputable def bX7_init_0 (S : MS) (x0 : Nat) : Option MS :=
  (o_sI S x0 8 0 (-1 : Int32)).bind fun S6 =>
  (o_sI S6 x0 8 1 (0 : Int32)).bind fun S11 =>
  (o_le 60 (60 : Int32)).bind fun n17 =>
  (some (m_n S11 + 1)).bind fun o17 =>
  (some (m_new S11 12 n17)).bind fun S17 =>
  (o_sP S17 x0 8 2 o17).bind fun S19 =>
  some S19
noncomputable def fX7_init (S : MS) (a0 : Nat) : Option MS := bX7_init_0 S a0
noncomputable def bX9_isIn_13 (z0 : Int32) : Option Int32 :=
  (o_zb z0).bind fun z13 =>
  some z13
noncomputable def bX9_isIn_0 (x0 : Int32) (x1 : Int32) : Option Int32 :=
  if ((x0 >>> (x1 &&& 31)) &&& (1 : Int32)) = 0 then
    bX9_isIn_13 (0 : Int32)
  else
    bX9_isIn_13 (1 : Int32)
noncomputable def fX9_isIn (a0 : Int32) (a1 : Int32) : Option Int32 := bX9_isIn_0 a0 a1
noncomputable def bX9_isBelow_14 (z0 : Int32) : Option Int32 :=
  (o_zb z0).bind fun z14 =>
  some z14
noncomputable def bX9_isBelow_13 : Option Int32 :=
  bX9_isBelow_14 (0 : Int32)
noncomputable def bX9_isBelow_0 (x0 : Int32) (x1 : Int32) : Option Int32 :=
  if x0 < 0 then
    bX9_isBelow_13
  else
    if x1 ≤ x0 then
      bX9_isBelow_13
    else
      bX9_isBelow_14 (1 : Int32)
noncomputable def fX9_isBelow (a0 : Int32) (a1 : Int32) : Option Int32 := bX9_isBelow_0 a0 a1
noncomputable def bX9_isPost_0 (S : MS) (x0 : Nat) (x1 : Int32) : Option Int32 :=
  (o_gP S x0 10 0).bind fun v2 =>
  (o_gP S v2 2 0).bind fun v5 =>
  (o_is S v5 0).bind fun _ =>
  (fJx4a65c_size_8abf5 S v5).bind fun v8 =>
  (fX9_isBelow x1 v8).bind fun v11 =>
  (o_zb v11).bind fun z14 =>
  some z14
noncomputable def fX9_isPost (S : MS) (a0 : Nat) (a1 : Int32) : Option Int32 := bX9_isPost_0 S a0 a1
noncomputable def bX0_leavesPeace_0 (S : MS) (x0 : Nat) (x1 : Int32) (x2 : Int32) : Option ((Nat × Int32 × Int32 × Int32) ⊕ Int32) :=
  some (.inl (x0, x1, x2, (0 : Int32)))
noncomputable def bX0_leavesPeace_30 (S : MS) (x0 : Nat) (x1 : Int32) (x2 : Int32) (x3 : Int32) : Option ((Nat × Int32 × Int32 × Int32) ⊕ Int32) :=
  (some (x3 + 1)).bind fun v30 =>
  some (.inl (x0, x1, x2, v30))
noncomputable def bX0_leavesPeace_2 (S : MS) (x0 : Nat) (x1 : Int32) (x2 : Int32) (x3 : Int32) : Option ((Nat × Int32 × Int32 × Int32) ⊕ Int32) :=
  if x2 ≤ x3 then
    some (.inr (1 : Int32))
  else
    (fX9_isIn x1 x3).bind fun v9 =>
    if v9 = 0 then
      (o_gP S x0 1 2).bind fun v16 =>
      (o_ld S v16 12 x3).bind fun v20 =>
      if (v20 &&& (x1 ^^^ (-1 : Int32))) = 0 then
        bX0_leavesPeace_30 S x0 x1 x2 x3
      else
        some (.inr (0 : Int32))
    else
      bX0_leavesPeace_30 S x0 x1 x2 x3
noncomputable def sX0_leavesPeace (S : MS) : (Nat × Int32 × Int32 × Int32) → Option ((Nat × Int32 × Int32 × Int32) ⊕ Int32) := (fun t => bX0_leavesPeace_2 S t.1 t.2.1 t.2.2.1 t.2.2.2)
noncomputable def hX0_leavesPeace_2 (S : MS) (x0 : Nat) (x1 : Int32) (x2 : Int32) (x3 : Int32) : Option Int32 := lim (sX0_leavesPeace S) (x0, x1, x2, x3)
theorem qX0_leavesPeace_2 (S : MS) (x0 : Nat) (x1 : Int32) (x2 : Int32) (x3 : Int32) : hX0_leavesPeace_2 S x0 x1 x2 x3 = fin (sX0_leavesPeace S) (bX0_leavesPeace_2 S x0 x1 x2 x3) := lim_eq _ _
noncomputable def fX0_leavesPeace (S : MS) (a0 : Nat) (a1 : Int32) (a2 : Int32) : Option Int32 := fin (sX0_leavesPeace S) (bX0_leavesPeace_0 S a0 a1 a2)
noncomputable def bX0_fewestDoubts_0 (S : MS) (x0 : Nat) (x1 : Int32) : Option ((Nat × Int32 × Int32 × Int32 × Int32) ⊕ Int32) :=
  (some ((x1 + (1 : Int32)))).bind fun v5 =>
  some (.inl (x0, x1, (0 : Int32), v5, (0 : Int32)))
noncomputable def bX0_fewestDoubts_50 (S : MS) (x0 : Nat) (x1 : Int32) (x2 : Int32) (x3 : Int32) (x4 : Int32) : Option ((Nat × Int32 × Int32 × Int32 × Int32) ⊕ Int32) :=
  (some (x4 + 1)).bind fun v50 =>
  some (.inl (x0, x1, x2, x3, v50))
noncomputable def bX0_fewestDoubts_56 (S : MS) (x2 : Int32) : Option ((Nat × Int32 × Int32 × Int32 × Int32) ⊕ Int32) :=
  some (.inr x2)
noncomputable def bX0_fewestDoubts_9 (S : MS) (x0 : Nat) (x1 : Int32) (x2 : Int32) (x3 : Int32) (x4 : Int32) : Option ((Nat × Int32 × Int32 × Int32 × Int32) ⊕ Int32) :=
  if ((1 : Int32) <<< (x1 &&& 31)) ≤ x4 then
    bX0_fewestDoubts_56 S x2
  else
    if x3 ≤ 0 then
      bX0_fewestDoubts_56 S x2
    else
      (fJ6_bitCount_0f7a4 x4).bind fun v23 =>
      if x3 ≤ v23 then
        bX0_fewestDoubts_50 S x0 x1 x2 x3 x4
      else
        (o_is S x0 1).bind fun _ =>
        (fX0_leavesPeace S x0 x4 x1).bind fun v38 =>
        if v38 = 0 then
          bX0_fewestDoubts_50 S x0 x1 x2 x3 x4
        else
          bX0_fewestDoubts_50 S x0 x1 x4 v23 x4
noncomputable def sX0_fewestDoubts (S : MS) : (Nat × Int32 × Int32 × Int32 × Int32) → Option ((Nat × Int32 × Int32 × Int32 × Int32) ⊕ Int32) := (fun t => bX0_fewestDoubts_9 S t.1 t.2.1 t.2.2.1 t.2.2.2.1 t.2.2.2.2)
noncomputable def hX0_fewestDoubts_9 (S : MS) (x0 : Nat) (x1 : Int32) (x2 : Int32) (x3 : Int32) (x4 : Int32) : Option Int32 := lim (sX0_fewestDoubts S) (x0, x1, x2, x3, x4)
theorem qX0_fewestDoubts_9 (S : MS) (x0 : Nat) (x1 : Int32) (x2 : Int32) (x3 : Int32) (x4 : Int32) : hX0_fewestDoubts_9 S x0 x1 x2 x3 x4 = fin (sX0_fewestDoubts S) (bX0_fewestDoubts_9 S x0 x1 x2 x3 x4) := lim_eq _ _
noncomputable def fX0_fewestDoubts (S : MS) (a0 : Nat) (a1 : Int32) : Option Int32 := fin (sX0_fewestDoubts S) (bX0_fewestDoubts_0 S a0 a1)
noncomputable def bX9_stepsBetween_0 (x0 : Int32) (x1 : Int32) : Option Int32 :=
  (fJ9_abs_0f7a4 ((x0 - x0 / (12 : Int32) * (12 : Int32)) - (x1 - x1 / (12 : Int32) * (12 : Int32)))).bind fun v9 =>
  (fJ9_abs_0f7a4 ((x0 / (12 : Int32)) - (x1 / (12 : Int32)))).bind fun v22 =>
  (fJ9_max_7cf53 v9 v22).bind fun v28 =>
  some v28
noncomputable def fX9_stepsBetween (a0 : Int32) (a1 : Int32) : Option Int32 := bX9_stepsBetween_0 a0 a1
noncomputable def bX0_rivalsOf_0 (S : MS) (x0 : Nat) (x1 : Nat) (x2 : Int32) : Option ((Nat × Nat × Int32 × Int32 × Int32) ⊕ Int32) :=
  (o_gI S x1 2 7).bind fun v3 =>
  (fX9_isIn v3 x2).bind fun v7 =>
  if v7 = 0 then
    some (.inr (0 : Int32))
  else
    some (.inl (x0, x1, x2, (0 : Int32), (0 : Int32)))
noncomputable def bX0_rivalsOf_100 (S : MS) (x0 : Nat) (x1 : Nat) (x2 : Int32) (x3 : Int32) (x4 : Int32) : Option ((Nat × Nat × Int32 × Int32 × Int32) ⊕ Int32) :=
  (some (x4 + 1)).bind fun v100 =>
  some (.inl (x0, x1, x2, x3, v100))
noncomputable def bX0_rivalsOf_18 (S : MS) (x0 : Nat) (x1 : Nat) (x2 : Int32) (x3 : Int32) (x4 : Int32) : Option ((Nat × Nat × Int32 × Int32 × Int32) ⊕ Int32) :=
  (o_gP S x1 2 0).bind fun v21 =>
  (o_is S v21 0).bind fun _ =>
  (fJx4a65c_size_8abf5 S v21).bind fun v24 =>
  if v24 ≤ x4 then
    some (.inr x3)
  else
    if x4 = x2 then
      bX0_rivalsOf_100 S x0 x1 x2 x3 x4
    else
      (o_gI S x1 2 7).bind fun v37 =>
      (fX9_isIn v37 x4).bind fun v42 =>
      if v42 = 0 then
        bX0_rivalsOf_100 S x0 x1 x2 x3 x4
      else
        (o_gP S x1 2 4).bind fun v49 =>
        (o_ld S v49 12 x2).bind fun v53 =>
        (o_gP S x1 2 4).bind fun v55 =>
        (o_ld S v55 12 x4).bind fun v60 =>
        (fX9_stepsBetween v53 v60).bind fun v61 =>
        (o_gP S x0 1 1).bind fun v67 =>
        (o_ld S v67 12 x2).bind fun v71 =>
        (o_gP S x0 1 1).bind fun v73 =>
        (o_ld S v73 12 x4).bind fun v78 =>
        (fJ9_abs_0f7a4 (v71 - v78)).bind fun v80 =>
        (o_gI S x0 1 0).bind fun v84 =>
        if v80 ≤ (v84 * v61) then
          bX0_rivalsOf_100 S x0 x1 x2 x3 x4
        else
          (some ((x3 ||| ((1 : Int32) <<< (x4 &&& 31))))).bind fun v99 =>
          bX0_rivalsOf_100 S x0 x1 x2 v99 x4
noncomputable def sX0_rivalsOf (S : MS) : (Nat × Nat × Int32 × Int32 × Int32) → Option ((Nat × Nat × Int32 × Int32 × Int32) ⊕ Int32) := (fun t => bX0_rivalsOf_18 S t.1 t.2.1 t.2.2.1 t.2.2.2.1 t.2.2.2.2)
noncomputable def hX0_rivalsOf_18 (S : MS) (x0 : Nat) (x1 : Nat) (x2 : Int32) (x3 : Int32) (x4 : Int32) : Option Int32 := lim (sX0_rivalsOf S) (x0, x1, x2, x3, x4)
theorem qX0_rivalsOf_18 (S : MS) (x0 : Nat) (x1 : Nat) (x2 : Int32) (x3 : Int32) (x4 : Int32) : hX0_rivalsOf_18 S x0 x1 x2 x3 x4 = fin (sX0_rivalsOf S) (bX0_rivalsOf_18 S x0 x1 x2 x3 x4) := lim_eq _ _
noncomputable def fX0_rivalsOf (S : MS) (a0 : Nat) (a1 : Nat) (a2 : Int32) : Option Int32 := fin (sX0_rivalsOf S) (bX0_rivalsOf_0 S a0 a1 a2)
noncomputable def bX9_farBetween_0 (x0 : Int32) (x1 : Int32) : Option Int32 :=
  (some (((x0 - x0 / (12 : Int32) * (12 : Int32)) - (x1 - x1 / (12 : Int32) * (12 : Int32))))).bind fun v9 =>
  (some (((x0 / (12 : Int32)) - (x1 / (12 : Int32))))).bind fun v19 =>
  some ((v9 * v9) + (v19 * v19))
noncomputable def fX9_farBetween (a0 : Int32) (a1 : Int32) : Option Int32 := bX9_farBetween_0 a0 a1
noncomputable def bX1_nearestOf_0 (S : MS) (x0 : Nat) (x1 : Int32) (x2 : Int32) : Option ((Nat × Int32 × Int32 × Int32 × Int32 × Int32) ⊕ Int32) :=
  some (.inl (x0, x1, x2, (-9 : Int32), (0 : Int32), (0 : Int32)))
noncomputable def bX1_nearestOf_63 (S : MS) (x0 : Nat) (x1 : Int32) (x2 : Int32) (x3 : Int32) (x4 : Int32) (x5 : Int32) : Option ((Nat × Int32 × Int32 × Int32 × Int32 × Int32) ⊕ Int32) :=
  (some (x5 + 1)).bind fun v63 =>
  some (.inl (x0, x1, x2, x3, x4, v63))
noncomputable def bX1_nearestOf_56 (S : MS) (x0 : Nat) (x1 : Int32) (x2 : Int32) (x5 : Int32) (x6 : Int32) : Option ((Nat × Int32 × Int32 × Int32 × Int32 × Int32) ⊕ Int32) :=
  bX1_nearestOf_63 S x0 x1 x2 x5 x6 x5
noncomputable def bX1_nearestOf_9 (S : MS) (x0 : Nat) (x1 : Int32) (x2 : Int32) (x3 : Int32) (x4 : Int32) (x5 : Int32) : Option ((Nat × Int32 × Int32 × Int32 × Int32 × Int32) ⊕ Int32) :=
  (o_gP S x0 2 0).bind fun v12 =>
  (o_is S v12 0).bind fun _ =>
  (fJx4a65c_size_8abf5 S v12).bind fun v15 =>
  if v15 ≤ x5 then
    some (.inr x3)
  else
    (fX9_isIn x1 x5).bind fun v24 =>
    if v24 = 0 then
      bX1_nearestOf_63 S x0 x1 x2 x3 x4 x5
    else
      (o_gP S x0 2 4).bind fun v31 =>
      (o_ld S v31 12 x5).bind fun v36 =>
      (fX9_farBetween v36 x2).bind fun v38 =>
      if x3 = (-9 : Int32) then
        bX1_nearestOf_56 S x0 x1 x2 x5 v38
      else
        if x4 ≤ v38 then
          bX1_nearestOf_63 S x0 x1 x2 x3 x4 x5
        else
          bX1_nearestOf_56 S x0 x1 x2 x5 v38
noncomputable def sX1_nearestOf (S : MS) : (Nat × Int32 × Int32 × Int32 × Int32 × Int32) → Option ((Nat × Int32 × Int32 × Int32 × Int32 × Int32) ⊕ Int32) := (fun t => bX1_nearestOf_9 S t.1 t.2.1 t.2.2.1 t.2.2.2.1 t.2.2.2.2.1 t.2.2.2.2.2)
noncomputable def hX1_nearestOf_9 (S : MS) (x0 : Nat) (x1 : Int32) (x2 : Int32) (x3 : Int32) (x4 : Int32) (x5 : Int32) : Option Int32 := lim (sX1_nearestOf S) (x0, x1, x2, x3, x4, x5)
theorem qX1_nearestOf_9 (S : MS) (x0 : Nat) (x1 : Int32) (x2 : Int32) (x3 : Int32) (x4 : Int32) (x5 : Int32) : hX1_nearestOf_9 S x0 x1 x2 x3 x4 x5 = fin (sX1_nearestOf S) (bX1_nearestOf_9 S x0 x1 x2 x3 x4 x5) := lim_eq _ _
noncomputable def fX1_nearestOf (S : MS) (a0 : Nat) (a1 : Int32) (a2 : Int32) : Option Int32 := fin (sX1_nearestOf S) (bX1_nearestOf_0 S a0 a1 a2)
noncomputable def bX1_guessFor_0 (S : MS) (x0 : Nat) (x1 : Nat) : Option ((Nat × Nat × Int32 × Int32 × Int32 × Int32) ⊕ Int32) :=
  (o_gI S x0 2 8).bind fun v1 =>
  (o_gI S x1 9 0).bind fun v6 =>
  (some ((v1 &&& (((1 : Int32) <<< (v6 &&& 31)) ^^^ (-1 : Int32))))).bind fun v13 =>
  some (.inl (x0, x1, v13, (0 : Int32), (0 : Int32), (0 : Int32)))
noncomputable def bX1_guessFor_99 (S : MS) (z0 : Int32) : Option ((Nat × Nat × Int32 × Int32 × Int32 × Int32) ⊕ Int32) :=
  some (.inr z0)
noncomputable def bX1_guessFor_82 (S : MS) (x3 : Int32) (x4 : Int32) : Option ((Nat × Nat × Int32 × Int32 × Int32 × Int32) ⊕ Int32) :=
  if x4 = 0 then
    bX1_guessFor_99 S (10000 : Int32)
  else
    (fJ9_floorDiv_7cf53 x3 x4).bind fun v96 =>
    bX1_guessFor_99 S v96
noncomputable def bX1_guessFor_22 (S : MS) (x0 : Nat) (x1 : Nat) (x2 : Int32) (x3 : Int32) (x4 : Int32) (x5 : Int32) : Option ((Nat × Nat × Int32 × Int32 × Int32 × Int32) ⊕ Int32) :=
  if (3 : Int32) ≤ x5 then
    bX1_guessFor_82 S x3 x4
  else
    (o_gP S x0 2 4).bind fun v31 =>
    (o_gI S x1 9 0).bind fun v35 =>
    (o_ld S v31 12 v35).bind fun v38 =>
    (o_is S x0 2).bind fun _ =>
    (fX1_nearestOf S x0 x2 v38).bind fun v39 =>
    if v39 = (-9 : Int32) then
      bX1_guessFor_82 S x3 x4
    else
      (some ((x2 &&& (((1 : Int32) <<< (v39 &&& 31)) ^^^ (-1 : Int32))))).bind fun v62 =>
      (o_gP S x0 2 6).bind fun v65 =>
      (o_ld S v65 12 v39).bind fun v70 =>
      (some ((x3 + v70))).bind fun v72 =>
      (some (x4 + 1)).bind fun v73 =>
      (some (x5 + 1)).bind fun v76 =>
      some (.inl (x0, x1, v62, v72, v73, v76))
noncomputable def sX1_guessFor (S : MS) : (Nat × Nat × Int32 × Int32 × Int32 × Int32) → Option ((Nat × Nat × Int32 × Int32 × Int32 × Int32) ⊕ Int32) := (fun t => bX1_guessFor_22 S t.1 t.2.1 t.2.2.1 t.2.2.2.1 t.2.2.2.2.1 t.2.2.2.2.2)
noncomputable def hX1_guessFor_22 (S : MS) (x0 : Nat) (x1 : Nat) (x2 : Int32) (x3 : Int32) (x4 : Int32) (x5 : Int32) : Option Int32 := lim (sX1_guessFor S) (x0, x1, x2, x3, x4, x5)
theorem qX1_guessFor_22 (S : MS) (x0 : Nat) (x1 : Nat) (x2 : Int32) (x3 : Int32) (x4 : Int32) (x5 : Int32) : hX1_guessFor_22 S x0 x1 x2 x3 x4 x5 = fin (sX1_guessFor S) (bX1_guessFor_22 S x0 x1 x2 x3 x4 x5) := lim_eq _ _
noncomputable def fX1_guessFor (S : MS) (a0 : Nat) (a1 : Nat) : Option Int32 := fin (sX1_guessFor S) (bX1_guessFor_0 S a0 a1)
noncomputable def bX8_levelOf_25 (S : MS) (x0 : Nat) (z0 : Int32) : Option Int32 :=
  (o_gI S x0 9 3).bind fun v30 =>
  (fJ9_floorDiv_7cf53 ((12 : Int32) * v30) (100 : Int32)).bind fun v36 =>
  some (z0 + v36)
noncomputable def bX8_levelOf_0 (S : MS) (x0 : Nat) (x1 : Int32) : Option Int32 :=
  (some ((x1 / (100 : Int32)))).bind fun v4 =>
  if (500 : Int32) ≤ v4 then
    bX8_levelOf_25 S x0 ((9000 : Int32) + v4)
  else
    bX8_levelOf_25 S x0 ((10000 : Int32) + v4)
noncomputable def fX8_levelOf (S : MS) (a0 : Nat) (a1 : Int32) : Option Int32 := bX8_levelOf_0 S a0 a1
noncomputable def bX8_countFillings_0 (S : MS) (x0 : Nat) (x1 : Int32) : Option ((Nat × Int32 × Int32 × Int32) ⊕ Int32) :=
  some (.inl (x0, x1, (1 : Int32), (0 : Int32)))
noncomputable def bX8_countFillings_27 (S : MS) (x0 : Nat) (x1 : Int32) (x2 : Int32) (x3 : Int32) : Option ((Nat × Int32 × Int32 × Int32) ⊕ Int32) :=
  (some (x3 + 1)).bind fun v27 =>
  some (.inl (x0, x1, x2, v27))
noncomputable def bX8_countFillings_4 (S : MS) (x0 : Nat) (x1 : Int32) (x2 : Int32) (x3 : Int32) : Option ((Nat × Int32 × Int32 × Int32) ⊕ Int32) :=
  if (4 : Int32) ≤ x3 then
    some (.inr x2)
  else
    (o_gP S x0 9 4).bind fun v10 =>
    (o_ld S v10 12 (((5 : Int32) * x1) + x3)).bind fun v18 =>
    if 0 ≤ v18 then
      bX8_countFillings_27 S x0 x1 x2 x3
    else
      (some ((x2 * (10 : Int32)))).bind fun v26 =>
      bX8_countFillings_27 S x0 x1 v26 x3
noncomputable def sX8_countFillings (S : MS) : (Nat × Int32 × Int32 × Int32) → Option ((Nat × Int32 × Int32 × Int32) ⊕ Int32) := (fun t => bX8_countFillings_4 S t.1 t.2.1 t.2.2.1 t.2.2.2)
noncomputable def hX8_countFillings_4 (S : MS) (x0 : Nat) (x1 : Int32) (x2 : Int32) (x3 : Int32) : Option Int32 := lim (sX8_countFillings S) (x0, x1, x2, x3)
theorem qX8_countFillings_4 (S : MS) (x0 : Nat) (x1 : Int32) (x2 : Int32) (x3 : Int32) : hX8_countFillings_4 S x0 x1 x2 x3 = fin (sX8_countFillings S) (bX8_countFillings_4 S x0 x1 x2 x3) := lim_eq _ _
noncomputable def fX8_countFillings (S : MS) (a0 : Nat) (a1 : Int32) : Option Int32 := fin (sX8_countFillings S) (bX8_countFillings_0 S a0 a1)
noncomputable def bX8_filled_0 (S : MS) (x0 : Nat) (x1 : Int32) (x2 : Int32) : Option ((Nat × Int32 × Int32 × Int32 × Int32 × Int32 × Int32 × Int32) ⊕ Int32) :=
  (some (((5 : Int32) * x1))).bind fun v3 =>
  some (.inl (x0, x1, v3, x2, (0 : Int32), (1 : Int32), (0 : Int32), (3 : Int32)))
noncomputable def bX8_filled_89 (S : MS) (x0 : Nat) (x1 : Int32) (x3 : Int32) (x4 : Int32) (x5 : Int32) (x6 : Int32) (x8 : Int32) (z0 : Int32) (z1 : Int32) : Option ((Nat × Int32 × Int32 × Int32 × Int32 × Int32 × Int32 × Int32) ⊕ Int32) :=
  (some ((z0 + z1))).bind fun v90 =>
  (some (x8 + (-1))).bind fun v92 =>
  some (.inl (x0, x1, x3, x4, x5, x6, v90, v92))
noncomputable def bX8_filled_54 (S : MS) (x0 : Nat) (x1 : Int32) (x3 : Int32) (x4 : Int32) (x5 : Int32) (x6 : Int32) (x7 : Int32) (x8 : Int32) (x9 : Int32) : Option ((Nat × Int32 × Int32 × Int32 × Int32 × Int32 × Int32 × Int32) ⊕ Int32) :=
  (some ((x5 + (x6 * x9)))).bind fun v62 =>
  (some ((x6 * (10 : Int32)))).bind fun v69 =>
  if (x8 - x8 / (2 : Int32) * (2 : Int32)) = 0 then
    bX8_filled_89 S x0 x1 x3 x4 v62 v69 x8 x7 x9
  else
    bX8_filled_89 S x0 x1 x3 x4 v62 v69 x8 x7 ((3 : Int32) * x9)
noncomputable def bX8_filled_145 (S : MS) (x5 : Int32) (x7 : Int32) : Option ((Nat × Int32 × Int32 × Int32 × Int32 × Int32 × Int32 × Int32) ⊕ Int32) :=
  some (.inr (((10 : Int32) * x5) + (x7 - x7 / (10 : Int32) * (10 : Int32))))
noncomputable def bX8_filled_128 (S : MS) (x1 : Int32) (x5 : Int32) (x7 : Int32) : Option ((Nat × Int32 × Int32 × Int32 × Int32 × Int32 × Int32 × Int32) ⊕ Int32) :=
  if x1 = 0 then
    if (x5 / (100 : Int32)) ≤ (36 : Int32) then
      bX8_filled_145 S x5 x7
    else
      some (.inr (-9 : Int32))
  else
    bX8_filled_145 S x5 x7
noncomputable def bX8_filled_19 (S : MS) (x0 : Nat) (x1 : Int32) (x3 : Int32) (x4 : Int32) (x5 : Int32) (x6 : Int32) (x7 : Int32) (x8 : Int32) : Option ((Nat × Int32 × Int32 × Int32 × Int32 × Int32 × Int32 × Int32) ⊕ Int32) :=
  if x8 < 0 then
    (o_gP S x0 9 4).bind fun v99 =>
    (o_ld S v99 12 ((x3 + (5 : Int32)) - (1 : Int32))).bind fun v107 =>
    if v107 < 0 then
      bX8_filled_128 S x1 x5 x7
    else
      if v107 = (x7 - x7 / (10 : Int32) * (10 : Int32)) then
        bX8_filled_128 S x1 x5 x7
      else
        some (.inr (-9 : Int32))
  else
    (o_gP S x0 9 4).bind fun v25 =>
    (o_ld S v25 12 (x3 + x8)).bind fun v32 =>
    if 0 ≤ v32 then
      bX8_filled_54 S x0 x1 x3 x4 x5 x6 x7 x8 v32
    else
      (some ((x4 - x4 / (10 : Int32) * (10 : Int32)))).bind fun v45 =>
      (some ((x4 / (10 : Int32)))).bind fun v52 =>
      bX8_filled_54 S x0 x1 x3 v52 x5 x6 x7 x8 v45
noncomputable def sX8_filled (S : MS) : (Nat × Int32 × Int32 × Int32 × Int32 × Int32 × Int32 × Int32) → Option ((Nat × Int32 × Int32 × Int32 × Int32 × Int32 × Int32 × Int32) ⊕ Int32) := (fun t => bX8_filled_19 S t.1 t.2.1 t.2.2.1 t.2.2.2.1 t.2.2.2.2.1 t.2.2.2.2.2.1 t.2.2.2.2.2.2.1 t.2.2.2.2.2.2.2)
noncomputable def hX8_filled_19 (S : MS) (x0 : Nat) (x1 : Int32) (x3 : Int32) (x4 : Int32) (x5 : Int32) (x6 : Int32) (x7 : Int32) (x8 : Int32) : Option Int32 := lim (sX8_filled S) (x0, x1, x3, x4, x5, x6, x7, x8)
theorem qX8_filled_19 (S : MS) (x0 : Nat) (x1 : Int32) (x3 : Int32) (x4 : Int32) (x5 : Int32) (x6 : Int32) (x7 : Int32) (x8 : Int32) : hX8_filled_19 S x0 x1 x3 x4 x5 x6 x7 x8 = fin (sX8_filled S) (bX8_filled_19 S x0 x1 x3 x4 x5 x6 x7 x8) := lim_eq _ _
noncomputable def fX8_filled (S : MS) (a0 : Nat) (a1 : Int32) (a2 : Int32) : Option Int32 := fin (sX8_filled S) (bX8_filled_0 S a0 a1 a2)
noncomputable def bX8_nearestPress_0 (S : MS) (x0 : Nat) (x1 : Int32) : Option ((Nat × Int32 × Int32 × Int32 × Int32 × Int32) ⊕ Int32) :=
  (o_is S x0 9).bind fun _ =>
  (fX8_countFillings S x0 (1 : Int32)).bind fun v7 =>
  some (.inl (x0, x1, (-9 : Int32), (0 : Int32), v7, (0 : Int32)))
noncomputable def bX8_nearestPress_69 (S : MS) (x0 : Nat) (x1 : Int32) (x2 : Int32) (x3 : Int32) (x4 : Int32) (x5 : Int32) : Option ((Nat × Int32 × Int32 × Int32 × Int32 × Int32) ⊕ Int32) :=
  (some (x5 + 1)).bind fun v69 =>
  some (.inl (x0, x1, x2, x3, x4, v69))
noncomputable def bX8_nearestPress_63 (S : MS) (x0 : Nat) (x1 : Int32) (x4 : Int32) (x5 : Int32) (x6 : Int32) (x7 : Int32) : Option ((Nat × Int32 × Int32 × Int32 × Int32 × Int32) ⊕ Int32) :=
  bX8_nearestPress_69 S x0 x1 x6 x7 x4 x5
noncomputable def bX8_nearestPress_15 (S : MS) (x0 : Nat) (x1 : Int32) (x2 : Int32) (x3 : Int32) (x4 : Int32) (x5 : Int32) : Option ((Nat × Int32 × Int32 × Int32 × Int32 × Int32) ⊕ Int32) :=
  if x4 ≤ x5 then
    some (.inr x2)
  else
    (o_is S x0 9).bind fun _ =>
    (fX8_filled S x0 (1 : Int32) x5).bind fun v26 =>
    if v26 = (-9 : Int32) then
      bX8_nearestPress_69 S x0 x1 x2 x3 x4 x5
    else
      (o_is S x0 9).bind fun _ =>
      (fX8_levelOf S x0 v26).bind fun v41 =>
      (fJ9_abs_0f7a4 (v41 - x1)).bind fun v46 =>
      if x2 = (-9 : Int32) then
        bX8_nearestPress_63 S x0 x1 x4 x5 v26 v46
      else
        if x3 ≤ v46 then
          bX8_nearestPress_69 S x0 x1 x2 x3 x4 x5
        else
          bX8_nearestPress_63 S x0 x1 x4 x5 v26 v46
noncomputable def sX8_nearestPress (S : MS) : (Nat × Int32 × Int32 × Int32 × Int32 × Int32) → Option ((Nat × Int32 × Int32 × Int32 × Int32 × Int32) ⊕ Int32) := (fun t => bX8_nearestPress_15 S t.1 t.2.1 t.2.2.1 t.2.2.2.1 t.2.2.2.2.1 t.2.2.2.2.2)
noncomputable def hX8_nearestPress_15 (S : MS) (x0 : Nat) (x1 : Int32) (x2 : Int32) (x3 : Int32) (x4 : Int32) (x5 : Int32) : Option Int32 := lim (sX8_nearestPress S) (x0, x1, x2, x3, x4, x5)
theorem qX8_nearestPress_15 (S : MS) (x0 : Nat) (x1 : Int32) (x2 : Int32) (x3 : Int32) (x4 : Int32) (x5 : Int32) : hX8_nearestPress_15 S x0 x1 x2 x3 x4 x5 = fin (sX8_nearestPress S) (bX8_nearestPress_15 S x0 x1 x2 x3 x4 x5) := lim_eq _ _
noncomputable def fX8_nearestPress (S : MS) (a0 : Nat) (a1 : Int32) : Option Int32 := fin (sX8_nearestPress S) (bX8_nearestPress_0 S a0 a1)
noncomputable def bX1_mendedLevel_0 (S : MS) (x0 : Nat) (x1 : Nat) : Option Int32 :=
  (o_is S x0 2).bind fun _ =>
  (fX1_guessFor S x0 x1).bind fun v4 =>
  (o_is S x1 9).bind fun _ =>
  (fX8_nearestPress S x1 v4).bind fun v7 =>
  (o_is S x1 9).bind fun _ =>
  (fX8_levelOf S x1 v7).bind fun v10 =>
  some v10
noncomputable def fX1_mendedLevel (S : MS) (a0 : Nat) (a1 : Nat) : Option Int32 := bX1_mendedLevel_0 S a0 a1
noncomputable def bX0_settle_0 (S : MS) (x0 : Nat) (x1 : Nat) : Option (((Nat × Nat × Int32 × Int32 × MS) ⊕ ((Nat × Nat × Int32 × Int32 × MS) ⊕ (Nat × Nat × Int32 × Int32 × MS))) ⊕ MS) :=
  (o_gP S x1 2 0).bind fun v1 =>
  (o_is S v1 0).bind fun _ =>
  (fJx4a65c_size_8abf5 S v1).bind fun v4 =>
  some (.inl (.inl (x0, x1, v4, (0 : Int32), S)))
noncomputable def bX0_settle_56 (S : MS) (x0 : Nat) (x1 : Nat) (x2 : Int32) (x3 : Int32) (z0 : Nat) (z1 : Int32) (z2 : Int32) : Option (((Nat × Nat × Int32 × Int32 × MS) ⊕ ((Nat × Nat × Int32 × Int32 × MS) ⊕ (Nat × Nat × Int32 × Int32 × MS))) ⊕ MS) :=
  (o_st S z0 12 z1 z2).bind fun S56 =>
  (some (x3 + 1)).bind fun v57 =>
  some (.inl (.inl (x0, x1, x2, v57, S56)))
noncomputable def bX0_settle_10 (S : MS) (x0 : Nat) (x1 : Nat) (x2 : Int32) (x3 : Int32) : Option (((Nat × Nat × Int32 × Int32 × MS) ⊕ ((Nat × Nat × Int32 × Int32 × MS) ⊕ (Nat × Nat × Int32 × Int32 × MS))) ⊕ MS) :=
  if x2 ≤ x3 then
    some (.inl (.inr (.inl (x0, x1, x2, (0 : Int32), S))))
  else
    (o_gP S x1 2 5).bind fun v16 =>
    (o_ld S v16 12 x3).bind fun v20 =>
    (o_gP S x0 1 1).bind fun v24 =>
    if v20 = (-9 : Int32) then
      bX0_settle_56 S x0 x1 x2 x3 v24 x3 (-9 : Int32)
    else
      (o_gP S x1 2 1).bind fun v42 =>
      (o_is S v42 0).bind fun _ =>
      (fJx4a65c_get_915e3 S v42 v20).bind fun v47 =>
      (o_is S v47 9).bind fun v50 =>
      (o_is S x1 2).bind fun _ =>
      (fX1_mendedLevel S x1 v50).bind fun v53 =>
      bX0_settle_56 S x0 x1 x2 x3 v24 x3 v53
noncomputable def bX0_settle_65 (S : MS) (x0 : Nat) (x1 : Nat) (x2 : Int32) (x3 : Int32) : Option (((Nat × Nat × Int32 × Int32 × MS) ⊕ ((Nat × Nat × Int32 × Int32 × MS) ⊕ (Nat × Nat × Int32 × Int32 × MS))) ⊕ MS) :=
  if x2 ≤ x3 then
    (o_is S x0 1).bind fun _ =>
    (fX0_fewestDoubts S x0 x2).bind fun v91 =>
    (o_sI S x0 1 3 v91).bind fun S94 =>
    (o_gI S94 x1 2 7).bind fun v98 =>
    (o_gI S94 x0 1 3).bind fun v102 =>
    (some ((v98 &&& (v102 ^^^ (-1 : Int32))))).bind fun v108 =>
    some (.inl (.inr (.inr (x0, x1, v108, (0 : Int32), S94))))
  else
    (o_gP S x0 1 2).bind fun v71 =>
    (o_is S x0 1).bind fun _ =>
    (fX0_rivalsOf S x0 x1 x3).bind fun v78 =>
    (o_st S v71 12 x3 v78).bind fun S81 =>
    (some (x3 + 1)).bind fun v82 =>
    some (.inl (.inr (.inl (x0, x1, x2, v82, S81))))
noncomputable def bX0_settle_154 (S : MS) (x0 : Nat) (x1 : Nat) (x3 : Int32) (x4 : Int32) (z0 : Nat) (z1 : Int32) (z2 : Int32) : Option (((Nat × Nat × Int32 × Int32 × MS) ⊕ ((Nat × Nat × Int32 × Int32 × MS) ⊕ (Nat × Nat × Int32 × Int32 × MS))) ⊕ MS) :=
  (o_st S z0 12 z1 z2).bind fun S154 =>
  (some (x4 + 1)).bind fun v155 =>
  some (.inl (.inr (.inr (x0, x1, x3, v155, S154))))
noncomputable def bX0_settle_112 (S : MS) (x0 : Nat) (x1 : Nat) (x3 : Int32) (x4 : Int32) : Option (((Nat × Nat × Int32 × Int32 × MS) ⊕ ((Nat × Nat × Int32 × Int32 × MS) ⊕ (Nat × Nat × Int32 × Int32 × MS))) ⊕ MS) :=
  if (144 : Int32) ≤ x4 then
    some (.inr S)
  else
    (o_is S x1 2).bind fun _ =>
    (fX1_nearestOf S x1 x3 x4).bind fun v124 =>
    (o_gP S x0 1 4).bind fun v130 =>
    if v124 = (-9 : Int32) then
      bX0_settle_154 S x0 x1 x3 x4 v130 x4 (-9 : Int32)
    else
      (o_gP S x0 1 1).bind fun v148 =>
      (o_ld S v148 12 v124).bind fun v153 =>
      bX0_settle_154 S x0 x1 x3 x4 v130 x4 v153
noncomputable def sX0_settle : ((Nat × Nat × Int32 × Int32 × MS) ⊕ ((Nat × Nat × Int32 × Int32 × MS) ⊕ (Nat × Nat × Int32 × Int32 × MS))) → Option (((Nat × Nat × Int32 × Int32 × MS) ⊕ ((Nat × Nat × Int32 × Int32 × MS) ⊕ (Nat × Nat × Int32 × Int32 × MS))) ⊕ MS) := (Sum.elim (fun t => bX0_settle_10 t.2.2.2.2 t.1 t.2.1 t.2.2.1 t.2.2.2.1) (Sum.elim (fun t => bX0_settle_65 t.2.2.2.2 t.1 t.2.1 t.2.2.1 t.2.2.2.1) (fun t => bX0_settle_112 t.2.2.2.2 t.1 t.2.1 t.2.2.1 t.2.2.2.1)))
noncomputable def hX0_settle_10 (S : MS) (x0 : Nat) (x1 : Nat) (x2 : Int32) (x3 : Int32) : Option MS := lim (sX0_settle) (.inl (x0, x1, x2, x3, S))
theorem qX0_settle_10 (S : MS) (x0 : Nat) (x1 : Nat) (x2 : Int32) (x3 : Int32) : hX0_settle_10 S x0 x1 x2 x3 = fin (sX0_settle) (bX0_settle_10 S x0 x1 x2 x3) := lim_eq _ _
noncomputable def hX0_settle_65 (S : MS) (x0 : Nat) (x1 : Nat) (x2 : Int32) (x3 : Int32) : Option MS := lim (sX0_settle) (.inr (.inl (x0, x1, x2, x3, S)))
theorem qX0_settle_65 (S : MS) (x0 : Nat) (x1 : Nat) (x2 : Int32) (x3 : Int32) : hX0_settle_65 S x0 x1 x2 x3 = fin (sX0_settle) (bX0_settle_65 S x0 x1 x2 x3) := lim_eq _ _
noncomputable def hX0_settle_112 (S : MS) (x0 : Nat) (x1 : Nat) (x3 : Int32) (x4 : Int32) : Option MS := lim (sX0_settle) (.inr (.inr (x0, x1, x3, x4, S)))
theorem qX0_settle_112 (S : MS) (x0 : Nat) (x1 : Nat) (x3 : Int32) (x4 : Int32) : hX0_settle_112 S x0 x1 x3 x4 = fin (sX0_settle) (bX0_settle_112 S x0 x1 x3 x4) := lim_eq _ _
noncomputable def fX0_settle (S : MS) (a0 : Nat) (a1 : Nat) : Option MS := fin (sX0_settle) (bX0_settle_0 S a0 a1)
noncomputable def bX9_settledChart_23 (S : MS) (x0 : Nat) : Option (Nat × MS) :=
  (o_gP S x0 10 1).bind fun v24 =>
  some (v24, S)
noncomputable def bX9_settledChart_0 (S : MS) (x0 : Nat) : Option (Nat × MS) :=
  (o_gI S x0 10 2).bind fun v1 =>
  if v1 = 0 then
    bX9_settledChart_23 S x0
  else
    (o_gP S x0 10 1).bind fun v8 =>
    (o_gP S x0 10 0).bind fun v12 =>
    (o_is S v8 1).bind fun _ =>
    (fX0_settle S v8 v12).bind fun S15 =>
    (o_sI S15 x0 10 2 (0 : Int32)).bind fun S20 =>
    bX9_settledChart_23 S20 x0
noncomputable def fX9_settledChart (S : MS) (a0 : Nat) : Option (Nat × MS) := bX9_settledChart_0 S a0
noncomputable def bX1_countWiresOf_0 (S : MS) (x0 : Nat) (x1 : Int32) : Option ((Nat × Int32 × Int32 × Int32) ⊕ Int32) :=
  some (.inl (x0, x1, (0 : Int32), (0 : Int32)))
noncomputable def bX1_countWiresOf_36 (S : MS) (x0 : Nat) (x1 : Int32) (x2 : Int32) (x3 : Int32) : Option ((Nat × Int32 × Int32 × Int32) ⊕ Int32) :=
  (some (x3 + 1)).bind fun v36 =>
  some (.inl (x0, x1, x2, v36))
noncomputable def bX1_countWiresOf_4 (S : MS) (x0 : Nat) (x1 : Int32) (x2 : Int32) (x3 : Int32) : Option ((Nat × Int32 × Int32 × Int32) ⊕ Int32) :=
  (o_gP S x0 2 1).bind fun v6 =>
  (o_is S v6 0).bind fun _ =>
  (fJx4a65c_size_8abf5 S v6).bind fun v9 =>
  if v9 ≤ x3 then
    some (.inr x2)
  else
    (o_gP S x0 2 1).bind fun v16 =>
    (o_is S v16 0).bind fun _ =>
    (fJx4a65c_get_915e3 S v16 x3).bind fun v20 =>
    (o_is S v20 9).bind fun v23 =>
    (o_gI S v23 9 0).bind fun v26 =>
    if v26 = x1 then
      (some (x2 + 1)).bind fun v33 =>
      bX1_countWiresOf_36 S x0 x1 v33 x3
    else
      bX1_countWiresOf_36 S x0 x1 x2 x3
noncomputable def sX1_countWiresOf (S : MS) : (Nat × Int32 × Int32 × Int32) → Option ((Nat × Int32 × Int32 × Int32) ⊕ Int32) := (fun t => bX1_countWiresOf_4 S t.1 t.2.1 t.2.2.1 t.2.2.2)
noncomputable def hX1_countWiresOf_4 (S : MS) (x0 : Nat) (x1 : Int32) (x2 : Int32) (x3 : Int32) : Option Int32 := lim (sX1_countWiresOf S) (x0, x1, x2, x3)
theorem qX1_countWiresOf_4 (S : MS) (x0 : Nat) (x1 : Int32) (x2 : Int32) (x3 : Int32) : hX1_countWiresOf_4 S x0 x1 x2 x3 = fin (sX1_countWiresOf S) (bX1_countWiresOf_4 S x0 x1 x2 x3) := lim_eq _ _
noncomputable def fX1_countWiresOf (S : MS) (a0 : Nat) (a1 : Int32) : Option Int32 := fin (sX1_countWiresOf S) (bX1_countWiresOf_0 S a0 a1)
noncomputable def bX9_about_126 (S : MS) (z0 : Int32) : Option (Int32 × MS) :=
  some (z0, S)
noncomputable def bX9_about_0 (S : MS) (x0 : Nat) (x1 : Int32) (x2 : Int32) : Option (Int32 × MS) :=
  (o_is S x0 10).bind fun _ =>
  (fX9_isPost S x0 x1).bind fun v2 =>
  if v2 = 0 then
    some ((-1 : Int32), S)
  else
    (o_gP S x0 10 0).bind fun v11 =>
    (o_gP S v11 2 0).bind fun v14 =>
    (o_is S v14 0).bind fun _ =>
    (fJx4a65c_get_915e3 S v14 x1).bind fun v18 =>
    (o_is S v18 7).bind fun v21 =>
    if x2 = (0 : Int32) then
      (o_gI S v21 7 0).bind fun v69 =>
      some (v69, S)
    else
    if x2 = (1 : Int32) then
      (o_gI S v21 7 1).bind fun v74 =>
      some (v74, S)
    else
    if x2 = (2 : Int32) then
      (o_gI S v21 7 2).bind fun v79 =>
      some (v79, S)
    else
    if x2 = (3 : Int32) then
      (o_gI S v21 7 3).bind fun v84 =>
      some (v84, S)
    else
    if x2 = (4 : Int32) then
      (o_gP S x0 10 0).bind fun v89 =>
      (o_is S v89 2).bind fun _ =>
      (fX1_countWiresOf S v89 x1).bind fun v93 =>
      some (v93, S)
    else
    if x2 = (5 : Int32) then
      (o_gP S x0 10 0).bind fun v98 =>
      (o_gP S v98 2 5).bind fun v101 =>
      (o_ld S v101 12 x1).bind fun v105 =>
      some (v105, S)
    else
    if x2 = (6 : Int32) then
      (o_is S x0 10).bind fun _ =>
      b2 (fX9_settledChart S x0) fun v108 S108 =>
      (o_gI S108 v108 1 3).bind fun v111 =>
      (fX9_isIn v111 x1).bind fun v115 =>
      if v115 = 0 then
        bX9_about_126 S108 (0 : Int32)
      else
        bX9_about_126 S108 (1 : Int32)
    else
    some ((-2 : Int32), S)
noncomputable def fX9_about (S : MS) (a0 : Nat) (a1 : Int32) (a2 : Int32) : Option (Int32 × MS) := bX9_about_0 S a0 a1 a2
noncomputable def bX9_comeTo_0 (S : MS) (x0 : Nat) (x1 : Int32) : Option (Int32 × MS) :=
  (o_sI S x0 10 12 x1).bind fun S2 =>
  some (((-10 : Int32) - x1), S2)
noncomputable def fX9_comeTo (S : MS) (a0 : Nat) (a1 : Int32) : Option (Int32 × MS) := bX9_comeTo_0 S a0 a1
noncomputable def bX9_as_0 (S : MS) (x0 : Nat) (x1 : Int32) (x2 : Int32) : Option (Int32 × MS) :=
  (o_sI S x0 10 12 (0 : Int32)).bind fun S2 =>
  (o_is S2 x0 10).bind fun _ =>
  (fX9_isPost S2 x0 x1).bind fun v7 =>
  if v7 = 0 then
    some ((-1 : Int32), S2)
  else
    (fX9_isBelow x2 (3 : Int32)).bind fun v17 =>
    if v17 = 0 then
      some ((-2 : Int32), S2)
    else
      (o_gP S2 x0 10 0).bind fun v27 =>
      (o_gP S2 v27 2 0).bind fun v30 =>
      (o_is S2 v30 0).bind fun _ =>
      (fJx4a65c_get_915e3 S2 v30 x1).bind fun v34 =>
      (o_is S2 v34 7).bind fun v37 =>
      (o_gI S2 v37 7 0).bind fun v40 =>
      if x2 ≤ v40 then
        some ((1 : Int32), S2)
      else
        (o_is S2 x0 10).bind fun _ =>
        b2 (fX9_comeTo S2 x0 (2 : Int32)) fun v49 S49 =>
        some (v49, S49)
noncomputable def fX9_as (S : MS) (a0 : Nat) (a1 : Int32) (a2 : Int32) : Option (Int32 × MS) := bX9_as_0 S a0 a1 a2
set_option maxHeartbeats 4000000 in
set_option maxRecDepth 100000 in
theorem wX0_init_0 {p : Program} {l : Launch} {e : Env} {s : State} {m : MethodId} {args : Array Value} {below : List Frame} {meth : Method} {c : Code} {D : va_G} {cy : Nat → ClassId} (ad : Nat → Nat) (A : Nat → Prop) {S : MS} {S' : MS} {H : Heap} {locs : List Loc} {K0 : Nat} {ls : Array Slot} {x0 : Nat} (C0 : CX p s m args meth c RX0 cX0_init 1 D cy) (hA : ∀ k, 0 < k → A (ad k)) (hs : ∀ k, K0 ≤ k → ad (k + 1) + 1 = ad (k + 2)) (hE : EX ad A s) (M : ST D cy ad A s.heap (ZA ad K0) S H locs) (hr : meth.sig.returnType = none) (hin : meth.name = "<init>") (hF : bX0_init_0 S x0 = some S') (hl : lv_has ls 1 [(0, .ref (ad x0))]) : W p l e rmX0_init s m args below meth c H locs 0 0 (MQ below (QcA D cy ad A K0 S' (none)) args s 5 456 A) (F0 m 0 ls []) := by
  unfold bX0_init_0 at hF
  obtain ⟨hx, hb, -, hown, -, hts, -⟩ := id C0
  refine lv_aload_n hx hb dX0_init_0 rfl (lv_at hl 0 rfl) ?_
  refine W.objInit hx hb hown (hts _ (uw_of 191 (by decide +kernel) rfl)) (hts _ (uw_of 111 (by decide +kernel) rfl)) (hts _ (uw_of 112 (by decide +kernel) rfl)) rfl (by rw [C0.2.2.1]; exact hl.1) rfl dX0_init_1 (Nat.le_of_ble_eq_true rfl) (Nat.le_of_ble_eq_true rfl) ?_
  refine W.eq (g2 := F0 m 4 ls []) rfl ?_
  refine lv_aload_n hx hb dX0_init_4 rfl (lv_at hl 0 rfl) ?_
  refine lv_bipush (v := (60 : Int32)) hx hb dX0_init_5 (by decide) ?_
  obtain ⟨S7, hv, hF⟩ := ob hF
  refine k_sI C0 M hv fl_X0_9 dX0_init_7 (fun H locs M => ?_)
  refine lv_aload_n hx hb dX0_init_10 rfl (lv_at hl 0 rfl) ?_
  refine lv_bipush (v := (12 : Int32)) hx hb dX0_init_11 (by decide) ?_
  obtain ⟨n13, hn, hF⟩ := ob hF
  obtain ⟨o13, ho, hF⟩ := ob hF
  obtain ⟨S13, hv, hF⟩ := ob hF
  have ho := vtI ho
  have hv := vtI hv
  refine k_newI (atype := .int) (ty := .int) (kd := 12) 0 C0 M hA hs rfl (uw_of 185 (by decide +kernel) rfl) rfl (by decide) rfl rfl hn (Nat.le_of_ble_eq_true rfl) (Nat.le_of_ble_eq_true rfl) (Nat.le_of_ble_eq_true rfl) dX0_init_13 (fun H M => ?_)
  rw [hv] at M
  rw [ho]
  refine W.widen (k := 1) (n := 12) (Nat.le_of_ble_eq_true rfl) (Nat.le_of_ble_eq_true rfl) ?_
  obtain ⟨S15, hv, hF⟩ := ob hF
  refine k_sPF C0 M hin rfl hv fl_X0_15 dX0_init_15 (fun H locs M => ?_)
  refine lv_aload_n hx hb dX0_init_18 rfl (lv_at hl 0 rfl) ?_
  refine lv_bipush (v := (12 : Int32)) hx hb dX0_init_19 (by decide) ?_
  obtain ⟨n21, hn, hF⟩ := ob hF
  obtain ⟨o21, ho, hF⟩ := ob hF
  obtain ⟨S21, hv, hF⟩ := ob hF
  have ho := vtI ho
  have hv := vtI hv
  refine k_newI (atype := .int) (ty := .int) (kd := 12) 0 C0 M hA hs rfl (uw_of 185 (by decide +kernel) rfl) rfl (by decide) rfl rfl hn (Nat.le_of_ble_eq_true rfl) (Nat.le_of_ble_eq_true rfl) (Nat.le_of_ble_eq_true rfl) dX0_init_21 (fun H M => ?_)
  rw [hv] at M
  rw [ho]
  refine W.widen (k := 2) (n := 24) (Nat.le_of_ble_eq_true rfl) (Nat.le_of_ble_eq_true rfl) ?_
  obtain ⟨S23, hv, hF⟩ := ob hF
  refine k_sPF C0 M hin rfl hv fl_X0_19 dX0_init_23 (fun H locs M => ?_)
  refine lv_aload_n hx hb dX0_init_26 rfl (lv_at hl 0 rfl) ?_
  refine lv_iconst (v := (0 : Int32)) hx hb dX0_init_27 (by decide) ?_
  obtain ⟨S28, hv, hF⟩ := ob hF
  refine k_sI C0 M hv fl_X0_22 dX0_init_28 (fun H locs M => ?_)
  refine lv_aload_n hx hb dX0_init_31 rfl (lv_at hl 0 rfl) ?_
  refine lv_sipush (v := (144 : Int32)) hx hb dX0_init_32 (by decide) ?_
  obtain ⟨n35, hn, hF⟩ := ob hF
  obtain ⟨o35, ho, hF⟩ := ob hF
  obtain ⟨S35, hv, hF⟩ := ob hF
  have ho := vtI ho
  have hv := vtI hv
  refine k_newI (atype := .int) (ty := .int) (kd := 12) 0 C0 M hA hs rfl (uw_of 185 (by decide +kernel) rfl) rfl (by decide) rfl rfl hn (Nat.le_of_ble_eq_true rfl) (Nat.le_of_ble_eq_true rfl) (Nat.le_of_ble_eq_true rfl) dX0_init_35 (fun H M => ?_)
  rw [hv] at M
  rw [ho]
  refine W.widen (k := 3) (n := 168) (Nat.le_of_ble_eq_true rfl) (Nat.le_of_ble_eq_true rfl) ?_
  obtain ⟨S37, hv, hF⟩ := ob hF
  refine k_sPF C0 M hin rfl hv fl_X0_25 dX0_init_37 (fun H locs M => ?_)
  refine lv_aload_n hx hb dX0_init_40 rfl (lv_at hl 0 rfl) ?_
  refine lv_iconst (v := (0 : Int32)) hx hb dX0_init_41 (by decide) ?_
  obtain ⟨S42, hv, hF⟩ := ob hF
  refine k_sI C0 M hv fl_X0_28 dX0_init_42 (fun H locs M => ?_)
  refine lv_aload_n hx hb dX0_init_45 rfl (lv_at hl 0 rfl) ?_
  refine lv_iconst (v := (0 : Int32)) hx hb dX0_init_46 (by decide) ?_
  obtain ⟨S47, hv, hF⟩ := ob hF
  refine k_sI C0 M hv fl_X0_31 dX0_init_47 (fun H locs M => ?_)
  refine lv_aload_n hx hb dX0_init_50 rfl (lv_at hl 0 rfl) ?_
  refine lv_iconst (v := (0 : Int32)) hx hb dX0_init_51 (by decide) ?_
  obtain ⟨S52, hv, hF⟩ := ob hF
  refine k_sI C0 M hv fl_X0_34 dX0_init_52 (fun H locs M => ?_)
  refine lv_aload_n hx hb dX0_init_55 rfl (lv_at hl 0 rfl) ?_
  refine lv_sipush (v := (144 : Int32)) hx hb dX0_init_56 (by decide) ?_
  obtain ⟨n59, hn, hF⟩ := ob hF
  obtain ⟨o59, ho, hF⟩ := ob hF
  obtain ⟨S59, hv, hF⟩ := ob hF
  have ho := vtI ho
  have hv := vtI hv
  refine k_newI (atype := .boolean) (ty := .boolean) (kd := 13) 1 C0 M hA hs rfl (uw_of 230 (by decide +kernel) rfl) rfl (by decide) rfl rfl hn (Nat.le_of_ble_eq_true rfl) (Nat.le_of_ble_eq_true rfl) (Nat.le_of_ble_eq_true rfl) dX0_init_59 (fun H M => ?_)
  rw [hv] at M
  rw [ho]
  refine W.widen (k := 4) (n := 312) (Nat.le_of_ble_eq_true rfl) (Nat.le_of_ble_eq_true rfl) ?_
  obtain ⟨S61, hv, hF⟩ := ob hF
  refine k_sPF C0 M hin rfl hv fl_X0_37 dX0_init_61 (fun H locs M => ?_)
  refine lv_aload_n hx hb dX0_init_64 rfl (lv_at hl 0 rfl) ?_
  refine lv_sipush (v := (144 : Int32)) hx hb dX0_init_65 (by decide) ?_
  obtain ⟨n68, hn, hF⟩ := ob hF
  obtain ⟨o68, ho, hF⟩ := ob hF
  obtain ⟨S68, hv, hF⟩ := ob hF
  have ho := vtI ho
  have hv := vtI hv
  refine k_newI (atype := .int) (ty := .int) (kd := 12) 0 C0 M hA hs rfl (uw_of 185 (by decide +kernel) rfl) rfl (by decide) rfl rfl hn (Nat.le_of_ble_eq_true rfl) (Nat.le_of_ble_eq_true rfl) (Nat.le_of_ble_eq_true rfl) dX0_init_68 (fun H M => ?_)
  rw [hv] at M
  rw [ho]
  refine W.widen (k := 5) (n := 456) (Nat.le_of_ble_eq_true rfl) (Nat.le_of_ble_eq_true rfl) ?_
  obtain ⟨S70, hv, hF⟩ := ob hF
  refine k_sPF C0 M hin rfl hv fl_X0_41 dX0_init_70 (fun H locs M => ?_)
  obtain rfl := (Option.some.inj hF)
  exact rt_AV C0 M hr dX0_init_73
set_option maxHeartbeats 4000000 in
set_option maxRecDepth 100000 in
theorem tX0_init (l : Launch) (D : va_G) (cy : Nat → ClassId) (ad : Nat → Nat) (A : Nat → Prop) (K0 : Nat) (hA : ∀ k, 0 < k → A (ad k)) (hs : ∀ k, K0 ≤ k → ad (k + 1) + 1 = ad (k + 2)) {S S' : MS} {a0 : Nat} (h : fX0_init S a0 = some S') : Met l yX0_init [Cond.code yX0_init cX0_init 1 (none)] rmX0_init (PcA D cy ad A K0 S [.ref (ad a0)]) (QcA D cy ad A K0 S' (none)) 5 456 A := by
  refine met_A (by decide +kernel) cw_X0_init (Nat.le_of_ble_eq_true rfl) ?_
  intro p e s m args below meth c ls C0 hE M hr hin hl
  have hl : lv_has ls 1 [(0, .ref (ad a0))] := hl
  exact wX0_init_0 ad A C0 hA hs hE M hr hin h hl
set_option maxHeartbeats 4000000 in
set_option maxRecDepth 100000 in
theorem wX1_init_0 {p : Program} {l : Launch} {e : Env} {s : State} {m : MethodId} {args : Array Value} {below : List Frame} {meth : Method} {c : Code} {D : va_G} {cy : Nat → ClassId} (ad : Nat → Nat) (A : Nat → Prop) {S : MS} {S' : MS} {H : Heap} {locs : List Loc} {K0 : Nat} {ls : Array Slot} {x0 : Nat} (C0 : CX p s m args meth c RX1 cX1_init 1 D cy) (hA : ∀ k, 0 < k → A (ad k)) (hs : ∀ k, K0 ≤ k → ad (k + 1) + 1 = ad (k + 2)) (hE : EX ad A s) (M : ST D cy ad A s.heap (ZA ad K0) S H locs) (hr : meth.sig.returnType = none) (hin : meth.name = "<init>") (hF : bX1_init_0 S x0 = some S') (hl : lv_has ls 1 [(0, .ref (ad x0))]) : W p l e rmX1_init s m args below meth c H locs 0 0 (MQ below (QcA D cy ad A K0 S' (none)) args s 5 42 A) (F0 m 0 ls []) := by
  unfold bX1_init_0 at hF
  obtain ⟨hx, hb, -, hown, -, hts, -⟩ := id C0
  refine lv_aload_n hx hb dX1_init_0 rfl (lv_at hl 0 rfl) ?_
  refine W.objInit hx hb hown (hts _ (uw_of 118 (by decide +kernel) rfl)) (hts _ (uw_of 111 (by decide +kernel) rfl)) (hts _ (uw_of 112 (by decide +kernel) rfl)) rfl (by rw [C0.2.2.1]; exact hl.1) rfl dX1_init_1 (Nat.le_of_ble_eq_true rfl) (Nat.le_of_ble_eq_true rfl) ?_
  refine W.eq (g2 := F0 m 4 ls []) rfl ?_
  refine lv_aload_n hx hb dX1_init_4 rfl (lv_at hl 0 rfl) ?_
  obtain ⟨o5, ho, hF⟩ := ob hF
  obtain ⟨S5, hv, hF⟩ := ob hF
  have ho := vtI ho
  have hv := vtI hv
  refine k_new C0 M hA hs nw_X1_9 (Nat.le_of_ble_eq_true rfl) (Nat.le_of_ble_eq_true rfl) dX1_init_5 (fun H M => ?_)
  rw [hv] at M
  rw [ho]
  refine W.widen (k := 1) (n := 3) (Nat.le_of_ble_eq_true rfl) (Nat.le_of_ble_eq_true rfl) ?_
  refine lv_dup hx hb dX1_init_8 rfl ?_
  obtain ⟨S9, hcl, hF⟩ := ob hF
  refine go_AV (r_I (rest := [.ref (ad o5), .ref (ad x0)]) (As := []) C0 cb_X1_11 (tJx4a65c_init_da8c8 l D cy ad A K0 hA hs hcl) (pre_A C0 hE M) hl dX1_init_9 rfl (Nat.le_of_ble_eq_true rfl) ⟨rfl, rfl⟩ ⟨Nat.le_of_ble_eq_true rfl, Nat.le_of_ble_eq_true rfl⟩ ⟨Nat.le_of_ble_eq_true rfl, Nat.le_of_ble_eq_true rfl⟩ rfl) M (fun H locs M => ?_)
  refine W.widen (k := 1) (n := 3) (Nat.le_of_ble_eq_true rfl) (Nat.le_of_ble_eq_true rfl) ?_
  obtain ⟨S12, hv, hF⟩ := ob hF
  refine k_sPF C0 M hin rfl hv fl_X1_12 dX1_init_12 (fun H locs M => ?_)
  refine lv_aload_n hx hb dX1_init_15 rfl (lv_at hl 0 rfl) ?_
  obtain ⟨o16, ho, hF⟩ := ob hF
  obtain ⟨S16, hv, hF⟩ := ob hF
  have ho := vtI ho
  have hv := vtI hv
  refine k_new C0 M hA hs nw_X1_9 (Nat.le_of_ble_eq_true rfl) (Nat.le_of_ble_eq_true rfl) dX1_init_16 (fun H M => ?_)
  rw [hv] at M
  rw [ho]
  refine W.widen (k := 2) (n := 6) (Nat.le_of_ble_eq_true rfl) (Nat.le_of_ble_eq_true rfl) ?_
  refine lv_dup hx hb dX1_init_19 rfl ?_
  obtain ⟨S20, hcl, hF⟩ := ob hF
  refine go_AV (r_I (rest := [.ref (ad o16), .ref (ad x0)]) (As := []) C0 cb_X1_11 (tJx4a65c_init_da8c8 l D cy ad A K0 hA hs hcl) (pre_A C0 hE M) hl dX1_init_20 rfl (Nat.le_of_ble_eq_true rfl) ⟨rfl, rfl⟩ ⟨Nat.le_of_ble_eq_true rfl, Nat.le_of_ble_eq_true rfl⟩ ⟨Nat.le_of_ble_eq_true rfl, Nat.le_of_ble_eq_true rfl⟩ rfl) M (fun H locs M => ?_)
  refine W.widen (k := 2) (n := 6) (Nat.le_of_ble_eq_true rfl) (Nat.le_of_ble_eq_true rfl) ?_
  obtain ⟨S23, hv, hF⟩ := ob hF
  refine k_sPF C0 M hin rfl hv fl_X1_18 dX1_init_23 (fun H locs M => ?_)
  refine lv_aload_n hx hb dX1_init_26 rfl (lv_at hl 0 rfl) ?_
  refine lv_iconst (v := (0 : Int32)) hx hb dX1_init_27 (by decide) ?_
  obtain ⟨S28, hv, hF⟩ := ob hF
  refine k_sI C0 M hv fl_X1_21 dX1_init_28 (fun H locs M => ?_)
  refine lv_aload_n hx hb dX1_init_31 rfl (lv_at hl 0 rfl) ?_
  refine lv_bipush (v := (99 : Int32)) hx hb dX1_init_32 (by decide) ?_
  obtain ⟨S34, hv, hF⟩ := ob hF
  refine k_sI C0 M hv fl_X1_25 dX1_init_34 (fun H locs M => ?_)
  refine lv_aload_n hx hb dX1_init_37 rfl (lv_at hl 0 rfl) ?_
  refine lv_bipush (v := (12 : Int32)) hx hb dX1_init_38 (by decide) ?_
  obtain ⟨n40, hn, hF⟩ := ob hF
  obtain ⟨o40, ho, hF⟩ := ob hF
  obtain ⟨S40, hv, hF⟩ := ob hF
  have ho := vtI ho
  have hv := vtI hv
  refine k_newI (atype := .int) (ty := .int) (kd := 12) 0 C0 M hA hs rfl (uw_of 185 (by decide +kernel) rfl) rfl (by decide) rfl rfl hn (Nat.le_of_ble_eq_true rfl) (Nat.le_of_ble_eq_true rfl) (Nat.le_of_ble_eq_true rfl) dX1_init_40 (fun H M => ?_)
  rw [hv] at M
  rw [ho]
  refine W.widen (k := 3) (n := 18) (Nat.le_of_ble_eq_true rfl) (Nat.le_of_ble_eq_true rfl) ?_
  obtain ⟨S42, hv, hF⟩ := ob hF
  refine k_sPF C0 M hin rfl hv fl_X1_28 dX1_init_42 (fun H locs M => ?_)
  refine lv_aload_n hx hb dX1_init_45 rfl (lv_at hl 0 rfl) ?_
  refine lv_bipush (v := (12 : Int32)) hx hb dX1_init_46 (by decide) ?_
  obtain ⟨n48, hn, hF⟩ := ob hF
  obtain ⟨o48, ho, hF⟩ := ob hF
  obtain ⟨S48, hv, hF⟩ := ob hF
  have ho := vtI ho
  have hv := vtI hv
  refine k_newI (atype := .int) (ty := .int) (kd := 12) 0 C0 M hA hs rfl (uw_of 185 (by decide +kernel) rfl) rfl (by decide) rfl rfl hn (Nat.le_of_ble_eq_true rfl) (Nat.le_of_ble_eq_true rfl) (Nat.le_of_ble_eq_true rfl) dX1_init_48 (fun H M => ?_)
  rw [hv] at M
  rw [ho]
  refine W.widen (k := 4) (n := 30) (Nat.le_of_ble_eq_true rfl) (Nat.le_of_ble_eq_true rfl) ?_
  obtain ⟨S50, hv, hF⟩ := ob hF
  refine k_sPF C0 M hin rfl hv fl_X1_32 dX1_init_50 (fun H locs M => ?_)
  refine lv_aload_n hx hb dX1_init_53 rfl (lv_at hl 0 rfl) ?_
  refine lv_bipush (v := (12 : Int32)) hx hb dX1_init_54 (by decide) ?_
  obtain ⟨n56, hn, hF⟩ := ob hF
  obtain ⟨o56, ho, hF⟩ := ob hF
  obtain ⟨S56, hv, hF⟩ := ob hF
  have ho := vtI ho
  have hv := vtI hv
  refine k_newI (atype := .int) (ty := .int) (kd := 12) 0 C0 M hA hs rfl (uw_of 185 (by decide +kernel) rfl) rfl (by decide) rfl rfl hn (Nat.le_of_ble_eq_true rfl) (Nat.le_of_ble_eq_true rfl) (Nat.le_of_ble_eq_true rfl) dX1_init_56 (fun H M => ?_)
  rw [hv] at M
  rw [ho]
  refine W.widen (k := 5) (n := 42) (Nat.le_of_ble_eq_true rfl) (Nat.le_of_ble_eq_true rfl) ?_
  obtain ⟨S58, hv, hF⟩ := ob hF
  refine k_sPF C0 M hin rfl hv fl_X1_35 dX1_init_58 (fun H locs M => ?_)
  refine lv_aload_n hx hb dX1_init_61 rfl (lv_at hl 0 rfl) ?_
  refine lv_iconst (v := (0 : Int32)) hx hb dX1_init_62 (by decide) ?_
  obtain ⟨S63, hv, hF⟩ := ob hF
  refine k_sI C0 M hv fl_X1_38 dX1_init_63 (fun H locs M => ?_)
  refine lv_aload_n hx hb dX1_init_66 rfl (lv_at hl 0 rfl) ?_
  refine lv_iconst (v := (0 : Int32)) hx hb dX1_init_67 (by decide) ?_
  obtain ⟨S68, hv, hF⟩ := ob hF
  refine k_sI C0 M hv fl_X1_41 dX1_init_68 (fun H locs M => ?_)
  obtain rfl := (Option.some.inj hF)
  exact rt_AV C0 M hr dX1_init_71
set_option maxHeartbeats 4000000 in
set_option maxRecDepth 100000 in
theorem tX1_init (l : Launch) (D : va_G) (cy : Nat → ClassId) (ad : Nat → Nat) (A : Nat → Prop) (K0 : Nat) (hA : ∀ k, 0 < k → A (ad k)) (hs : ∀ k, K0 ≤ k → ad (k + 1) + 1 = ad (k + 2)) {S S' : MS} {a0 : Nat} (h : fX1_init S a0 = some S') : Met l yX1_init [Cond.code yX1_init cX1_init 1 (none)] rmX1_init (PcA D cy ad A K0 S [.ref (ad a0)]) (QcA D cy ad A K0 S' (none)) 5 42 A := by
  refine met_A (by decide +kernel) cw_X1_init (Nat.le_of_ble_eq_true rfl) ?_
  intro p e s m args below meth c ls C0 hE M hr hin hl
  have hl : lv_has ls 1 [(0, .ref (ad a0))] := hl
  exact wX1_init_0 ad A C0 hA hs hE M hr hin h hl
set_option maxHeartbeats 4000000 in
set_option maxRecDepth 100000 in
theorem wX4_init_0 {p : Program} {l : Launch} {e : Env} {s : State} {m : MethodId} {args : Array Value} {below : List Frame} {meth : Method} {c : Code} {D : va_G} {cy : Nat → ClassId} (ad : Nat → Nat) (A : Nat → Prop) {S : MS} {S' : MS} {H : Heap} {locs : List Loc} {K0 : Nat} {ls : Array Slot} {x0 : Nat} (C0 : CX p s m args meth c RX4 cX4_init 1 D cy) (hA : ∀ k, 0 < k → A (ad k)) (hs : ∀ k, K0 ≤ k → ad (k + 1) + 1 = ad (k + 2)) (hE : EX ad A s) (M : ST D cy ad A s.heap (ZA ad K0) S H locs) (hr : meth.sig.returnType = none) (hin : meth.name = "<init>") (hF : bX4_init_0 S x0 = some S') (hl : lv_has ls 1 [(0, .ref (ad x0))]) : W p l e rmX4_init s m args below meth c H locs 0 0 (MQ below (QcA D cy ad A K0 S' (none)) args s 14 233 A) (F0 m 0 ls []) := by
  unfold bX4_init_0 at hF
  obtain ⟨hx, hb, -, hown, -, hts, -⟩ := id C0
  refine lv_aload_n hx hb dX4_init_0 rfl (lv_at hl 0 rfl) ?_
  refine W.objInit hx hb hown (hts _ (uw_of 254 (by decide +kernel) rfl)) (hts _ (uw_of 111 (by decide +kernel) rfl)) (hts _ (uw_of 112 (by decide +kernel) rfl)) rfl (by rw [C0.2.2.1]; exact hl.1) rfl dX4_init_1 (Nat.le_of_ble_eq_true rfl) (Nat.le_of_ble_eq_true rfl) ?_
  refine W.eq (g2 := F0 m 4 ls []) rfl ?_
  refine lv_aload_n hx hb dX4_init_4 rfl (lv_at hl 0 rfl) ?_
  refine lv_iconst (v := (5 : Int32)) hx hb dX4_init_5 (by decide) ?_
  refine lv_iconst (v := (5 : Int32)) hx hb dX4_init_6 (by decide) ?_
  obtain ⟨o7, ho, hF⟩ := ob hF
  obtain ⟨S7, hv, hF⟩ := ob hF
  have ho := vtI ho
  have hv := vtI hv
  refine k_grid (N := 5) (K := 5) C0 M hA hs (uw_of 255 (by decide +kernel) rfl) (uw_of 256 (by decide +kernel) rfl) (uw_of 185 (by decide +kernel) rfl) (by decide) (by decide) rfl rfl (Nat.le_of_ble_eq_true rfl) (Nat.le_of_ble_eq_true rfl) (Nat.le_of_ble_eq_true rfl) (Nat.le_of_ble_eq_true rfl) dX4_init_7 (fun H M => ?_)
  rw [hv] at M
  rw [ho]
  refine W.widen (k := 6) (n := 30) (Nat.le_of_ble_eq_true rfl) (Nat.le_of_ble_eq_true rfl) ?_
  obtain ⟨S11, hv, hF⟩ := ob hF
  refine k_sPF C0 M hin rfl hv fl_X4_11 dX4_init_11 (fun H locs M => ?_)
  refine lv_aload_n hx hb dX4_init_14 rfl (lv_at hl 0 rfl) ?_
  refine lv_bipush (v := (6 : Int32)) hx hb dX4_init_15 (by decide) ?_
  refine lv_bipush (v := (32 : Int32)) hx hb dX4_init_17 (by decide) ?_
  obtain ⟨o19, ho, hF⟩ := ob hF
  obtain ⟨S19, hv, hF⟩ := ob hF
  have ho := vtI ho
  have hv := vtI hv
  refine k_grid (N := 6) (K := 32) C0 M hA hs (uw_of 255 (by decide +kernel) rfl) (uw_of 256 (by decide +kernel) rfl) (uw_of 185 (by decide +kernel) rfl) (by decide) (by decide) rfl rfl (Nat.le_of_ble_eq_true rfl) (Nat.le_of_ble_eq_true rfl) (Nat.le_of_ble_eq_true rfl) (Nat.le_of_ble_eq_true rfl) dX4_init_19 (fun H M => ?_)
  rw [hv] at M
  rw [ho]
  refine W.widen (k := 13) (n := 228) (Nat.le_of_ble_eq_true rfl) (Nat.le_of_ble_eq_true rfl) ?_
  obtain ⟨S23, hv, hF⟩ := ob hF
  refine k_sPF C0 M hin rfl hv fl_X4_16 dX4_init_23 (fun H locs M => ?_)
  refine lv_aload_n hx hb dX4_init_26 rfl (lv_at hl 0 rfl) ?_
  refine lv_iconst (v := (5 : Int32)) hx hb dX4_init_27 (by decide) ?_
  obtain ⟨n28, hn, hF⟩ := ob hF
  obtain ⟨o28, ho, hF⟩ := ob hF
  obtain ⟨S28, hv, hF⟩ := ob hF
  have ho := vtI ho
  have hv := vtI hv
  refine k_newI (atype := .int) (ty := .int) (kd := 12) 0 C0 M hA hs rfl (uw_of 185 (by decide +kernel) rfl) rfl (by decide) rfl rfl hn (Nat.le_of_ble_eq_true rfl) (Nat.le_of_ble_eq_true rfl) (Nat.le_of_ble_eq_true rfl) dX4_init_28 (fun H M => ?_)
  rw [hv] at M
  rw [ho]
  refine W.widen (k := 14) (n := 233) (Nat.le_of_ble_eq_true rfl) (Nat.le_of_ble_eq_true rfl) ?_
  obtain ⟨S30, hv, hF⟩ := ob hF
  refine k_sPF C0 M hin rfl hv fl_X4_19 dX4_init_30 (fun H locs M => ?_)
  obtain rfl := (Option.some.inj hF)
  exact rt_AV C0 M hr dX4_init_33
set_option maxHeartbeats 4000000 in
set_option maxRecDepth 100000 in
theorem tX4_init (l : Launch) (D : va_G) (cy : Nat → ClassId) (ad : Nat → Nat) (A : Nat → Prop) (K0 : Nat) (hA : ∀ k, 0 < k → A (ad k)) (hs : ∀ k, K0 ≤ k → ad (k + 1) + 1 = ad (k + 2)) {S S' : MS} {a0 : Nat} (h : fX4_init S a0 = some S') : Met l yX4_init [Cond.code yX4_init cX4_init 1 (none)] rmX4_init (PcA D cy ad A K0 S [.ref (ad a0)]) (QcA D cy ad A K0 S' (none)) 14 233 A := by
  refine met_A (by decide +kernel) cw_X4_init (Nat.le_of_ble_eq_true rfl) ?_
  intro p e s m args below meth c ls C0 hE M hr hin hl
  have hl : lv_has ls 1 [(0, .ref (ad a0))] := hl
  exact wX4_init_0 ad A C0 hA hs hE M hr hin h hl
set_option maxHeartbeats 4000000 in
set_option maxRecDepth 100000 in
theorem wX5_init_0 {p : Program} {l : Launch} {e : Env} {s : State} {m : MethodId} {args : Array Value} {below : List Frame} {meth : Method} {c : Code} {D : va_G} {cy : Nat → ClassId} (ad : Nat → Nat) (A : Nat → Prop) {S : MS} {S' : MS} {H : Heap} {locs : List Loc} {K0 : Nat} {ls : Array Slot} {x0 : Nat} (C0 : CX p s m args meth c RX5 cX5_init 1 D cy) (hA : ∀ k, 0 < k → A (ad k)) (hs : ∀ k, K0 ≤ k → ad (k + 1) + 1 = ad (k + 2)) (hE : EX ad A s) (M : ST D cy ad A s.heap (ZA ad K0) S H locs) (hr : meth.sig.returnType = none) (hin : meth.name = "<init>") (hF : bX5_init_0 S x0 = some S') (hl : lv_has ls 1 [(0, .ref (ad x0))]) : W p l e rmX5_init s m args below meth c H locs 0 0 (MQ below (QcA D cy ad A K0 S' (none)) args s 3 888 A) (F0 m 0 ls []) := by
  unfold bX5_init_0 at hF
  obtain ⟨hx, hb, -, hown, -, hts, -⟩ := id C0
  refine lv_aload_n hx hb dX5_init_0 rfl (lv_at hl 0 rfl) ?_
  refine W.objInit hx hb hown (hts _ (uw_of 238 (by decide +kernel) rfl)) (hts _ (uw_of 111 (by decide +kernel) rfl)) (hts _ (uw_of 112 (by decide +kernel) rfl)) rfl (by rw [C0.2.2.1]; exact hl.1) rfl dX5_init_1 (Nat.le_of_ble_eq_true rfl) (Nat.le_of_ble_eq_true rfl) ?_
  refine W.eq (g2 := F0 m 4 ls []) rfl ?_
  refine lv_aload_n hx hb dX5_init_4 rfl (lv_at hl 0 rfl) ?_
  refine lv_bipush (v := (12 : Int32)) hx hb dX5_init_5 (by decide) ?_
  obtain ⟨n7, hn, hF⟩ := ob hF
  obtain ⟨o7, ho, hF⟩ := ob hF
  obtain ⟨S7, hv, hF⟩ := ob hF
  have ho := vtI ho
  have hv := vtI hv
  refine k_newI (atype := .int) (ty := .int) (kd := 12) 0 C0 M hA hs rfl (uw_of 185 (by decide +kernel) rfl) rfl (by decide) rfl rfl hn (Nat.le_of_ble_eq_true rfl) (Nat.le_of_ble_eq_true rfl) (Nat.le_of_ble_eq_true rfl) dX5_init_7 (fun H M => ?_)
  rw [hv] at M
  rw [ho]
  refine W.widen (k := 1) (n := 12) (Nat.le_of_ble_eq_true rfl) (Nat.le_of_ble_eq_true rfl) ?_
  obtain ⟨S9, hv, hF⟩ := ob hF
  refine k_sPF C0 M hin rfl hv fl_X5_9 dX5_init_9 (fun H locs M => ?_)
  refine lv_aload_n hx hb dX5_init_12 rfl (lv_at hl 0 rfl) ?_
  refine lv_bipush (v := (12 : Int32)) hx hb dX5_init_13 (by decide) ?_
  obtain ⟨n15, hn, hF⟩ := ob hF
  obtain ⟨o15, ho, hF⟩ := ob hF
  obtain ⟨S15, hv, hF⟩ := ob hF
  have ho := vtI ho
  have hv := vtI hv
  refine k_newI (atype := .int) (ty := .int) (kd := 12) 0 C0 M hA hs rfl (uw_of 185 (by decide +kernel) rfl) rfl (by decide) rfl rfl hn (Nat.le_of_ble_eq_true rfl) (Nat.le_of_ble_eq_true rfl) (Nat.le_of_ble_eq_true rfl) dX5_init_15 (fun H M => ?_)
  rw [hv] at M
  rw [ho]
  refine W.widen (k := 2) (n := 24) (Nat.le_of_ble_eq_true rfl) (Nat.le_of_ble_eq_true rfl) ?_
  obtain ⟨S17, hv, hF⟩ := ob hF
  refine k_sPF C0 M hin rfl hv fl_X5_15 dX5_init_17 (fun H locs M => ?_)
  refine lv_aload_n hx hb dX5_init_20 rfl (lv_at hl 0 rfl) ?_
  refine lv_sipush (v := (864 : Int32)) hx hb dX5_init_21 (by decide) ?_
  obtain ⟨n24, hn, hF⟩ := ob hF
  obtain ⟨o24, ho, hF⟩ := ob hF
  obtain ⟨S24, hv, hF⟩ := ob hF
  have ho := vtI ho
  have hv := vtI hv
  refine k_newI (atype := .int) (ty := .int) (kd := 12) 0 C0 M hA hs rfl (uw_of 185 (by decide +kernel) rfl) rfl (by decide) rfl rfl hn (Nat.le_of_ble_eq_true rfl) (Nat.le_of_ble_eq_true rfl) (Nat.le_of_ble_eq_true rfl) dX5_init_24 (fun H M => ?_)
  rw [hv] at M
  rw [ho]
  refine W.widen (k := 3) (n := 888) (Nat.le_of_ble_eq_true rfl) (Nat.le_of_ble_eq_true rfl) ?_
  obtain ⟨S26, hv, hF⟩ := ob hF
  refine k_sPF C0 M hin rfl hv fl_X5_18 dX5_init_26 (fun H locs M => ?_)
  obtain rfl := (Option.some.inj hF)
  exact rt_AV C0 M hr dX5_init_29
set_option maxHeartbeats 4000000 in
set_option maxRecDepth 100000 in
theorem tX5_init (l : Launch) (D : va_G) (cy : Nat → ClassId) (ad : Nat → Nat) (A : Nat → Prop) (K0 : Nat) (hA : ∀ k, 0 < k → A (ad k)) (hs : ∀ k, K0 ≤ k → ad (k + 1) + 1 = ad (k + 2)) {S S' : MS} {a0 : Nat} (h : fX5_init S a0 = some S') : Met l yX5_init [Cond.code yX5_init cX5_init 1 (none)] rmX5_init (PcA D cy ad A K0 S [.ref (ad a0)]) (QcA D cy ad A K0 S' (none)) 3 888 A := by
  refine met_A (by decide +kernel) cw_X5_init (Nat.le_of_ble_eq_true rfl) ?_
  intro p e s m args below meth c ls C0 hE M hr hin hl
  have hl : lv_has ls 1 [(0, .ref (ad a0))] := hl
  exact wX5_init_0 ad A C0 hA hs hE M hr hin h hl
set_option maxHeartbeats 4000000 in
set_option maxRecDepth 100000 in
theorem wX7_init_0 {p : Program} {l : Launch} {e : Env} {s : State} {m : MethodId} {args : Array Value} {below : List Frame} {meth : Method} {c : Code} {D : va_G} {cy : Nat → ClassId} (ad : Nat → Nat) (A : Nat → Prop) {S : MS} {S' : MS} {H : Heap} {locs : List Loc} {K0 : Nat} {ls : Array Slot} {x0 : Nat} (C0 : CX p s m args meth c RX7 cX7_init 1 D cy) (hA : ∀ k, 0 < k → A (ad k)) (hs : ∀ k, K0 ≤ k → ad (k + 1) + 1 = ad (k + 2)) (hE : EX ad A s) (M : ST D cy ad A s.heap (ZA ad K0) S H locs) (hr : meth.sig.returnType = none) (hin : meth.name = "<init>") (hF : bX7_init_0 S x0 = some S') (hl : lv_has ls 1 [(0, .ref (ad x0))]) : W p l e rmX7_init s m args below meth c H locs 0 0 (MQ below (QcA D cy ad A K0 S' (none)) args s 1 60 A) (F0 m 0 ls []) := by
  unfold bX7_init_0 at hF
  obtain ⟨hx, hb, -, hown, -, hts, -⟩ := id C0
  refine lv_aload_n hx hb dX7_init_0 rfl (lv_at hl 0 rfl) ?_
  refine W.objInit hx hb hown (hts _ (uw_of 275 (by decide +kernel) rfl)) (hts _ (uw_of 111 (by decide +kernel) rfl)) (hts _ (uw_of 112 (by decide +kernel) rfl)) rfl (by rw [C0.2.2.1]; exact hl.1) rfl dX7_init_1 (Nat.le_of_ble_eq_true rfl) (Nat.le_of_ble_eq_true rfl) ?_
  refine W.eq (g2 := F0 m 4 ls []) rfl ?_
  refine lv_aload_n hx hb dX7_init_4 rfl (lv_at hl 0 rfl) ?_
  refine lv_iconst (v := (-1 : Int32)) hx hb dX7_init_5 (by decide) ?_
  obtain ⟨S6, hv, hF⟩ := ob hF
  refine k_sI C0 M hv fl_X7_11 dX7_init_6 (fun H locs M => ?_)
  refine lv_aload_n hx hb dX7_init_9 rfl (lv_at hl 0 rfl) ?_
  refine lv_iconst (v := (0 : Int32)) hx hb dX7_init_10 (by decide) ?_
  obtain ⟨S11, hv, hF⟩ := ob hF
  refine k_sI C0 M hv fl_X7_15 dX7_init_11 (fun H locs M => ?_)
  refine lv_aload_n hx hb dX7_init_14 rfl (lv_at hl 0 rfl) ?_
  refine lv_bipush (v := (60 : Int32)) hx hb dX7_init_15 (by decide) ?_
  obtain ⟨n17, hn, hF⟩ := ob hF
  obtain ⟨o17, ho, hF⟩ := ob hF
  obtain ⟨S17, hv, hF⟩ := ob hF
  have ho := vtI ho
  have hv := vtI hv
  refine k_newI (atype := .int) (ty := .int) (kd := 12) 0 C0 M hA hs rfl (uw_of 185 (by decide +kernel) rfl) rfl (by decide) rfl rfl hn (Nat.le_of_ble_eq_true rfl) (Nat.le_of_ble_eq_true rfl) (Nat.le_of_ble_eq_true rfl) dX7_init_17 (fun H M => ?_)
  rw [hv] at M
  rw [ho]
  refine W.widen (k := 1) (n := 60) (Nat.le_of_ble_eq_true rfl) (Nat.le_of_ble_eq_true rfl) ?_
  obtain ⟨S19, hv, hF⟩ := ob hF
  refine k_sPF C0 M hin rfl hv fl_X7_18 dX7_init_19 (fun H locs M => ?_)
  obtain rfl := (Option.some.inj hF)
  exact rt_AV C0 M hr dX7_init_22
set_option maxHeartbeats 4000000 in
set_option maxRecDepth 100000 in
theorem tX7_init (l : Launch) (D : va_G) (cy : Nat → ClassId) (ad : Nat → Nat) (A : Nat → Prop) (K0 : Nat) (hA : ∀ k, 0 < k → A (ad k)) (hs : ∀ k, K0 ≤ k → ad (k + 1) + 1 = ad (k + 2)) {S S' : MS} {a0 : Nat} (h : fX7_init S a0 = some S') : Met l yX7_init [Cond.code yX7_init cX7_init 1 (none)] rmX7_init (PcA D cy ad A K0 S [.ref (ad a0)]) (QcA D cy ad A K0 S' (none)) 1 60 A := by
  refine met_A (by decide +kernel) cw_X7_init (Nat.le_of_ble_eq_true rfl) ?_
  intro p e s m args below meth c ls C0 hE M hr hin hl
  have hl : lv_has ls 1 [(0, .ref (ad a0))] := hl
  exact wX7_init_0 ad A C0 hA hs hE M hr hin h hl
set_option maxHeartbeats 4000000 in
set_option maxRecDepth 100000 in
theorem wX9_isIn_13 {p : Program} {l : Launch} {e : Env} {s : State} {m : MethodId} {args : Array Value} {below : List Frame} {meth : Method} {c : Code} {D : va_G} {cy : Nat → ClassId} (ad : Nat → Nat) (A : Nat → Prop) {r : Int32} {ls : Array Slot} {z0 : Int32} (C0 : CX p s m args meth c RX9 cX9_isIn 2 D cy) (hr : meth.sig.returnType = some .boolean) (hF : bX9_isIn_13 z0 = some r) (hl : lv_has ls 2 []) : W p l e rmX9_isIn s m args below meth c s.heap [] 0 0 (MQ below (QcS (some (.int r))) args s 0 0 (fun _ => False)) (F0 m 13 ls [.int z0]) := by
  unfold bX9_isIn_13 at hF
  obtain ⟨hx, hb, -, hown, -, hts, -⟩ := id C0
  obtain ⟨z13, hz, hF⟩ := ob hF
  have hz2 := (o_if hz).2
  refine vtopi hz2 ?_
  rw [hz2] at hz
  obtain rfl := (Option.some.inj hF)
  exact rt_SZ C0 hr hz dX9_isIn_13
set_option maxHeartbeats 4000000 in
set_option maxRecDepth 100000 in
theorem wX9_isIn_0 {p : Program} {l : Launch} {e : Env} {s : State} {m : MethodId} {args : Array Value} {below : List Frame} {meth : Method} {c : Code} {D : va_G} {cy : Nat → ClassId} (ad : Nat → Nat) (A : Nat → Prop) {r : Int32} {ls : Array Slot} {x0 : Int32} {x1 : Int32} (C0 : CX p s m args meth c RX9 cX9_isIn 2 D cy) (hr : meth.sig.returnType = some .boolean) (hF : bX9_isIn_0 x0 x1 = some r) (hl : lv_has ls 2 [(0, .int x0), (1, .int x1)]) : W p l e rmX9_isIn s m args below meth c s.heap [] 0 0 (MQ below (QcS (some (.int r))) args s 0 0 (fun _ => False)) (F0 m 0 ls []) := by
  unfold bX9_isIn_0 at hF
  obtain ⟨hx, hb, -, hown, -, hts, -⟩ := id C0
  refine lv_iload_n hx hb dX9_isIn_0 rfl (lv_at hl 0 rfl) ?_
  refine lv_iload_n hx hb dX9_isIn_1 rfl (lv_at hl 1 rfl) ?_
  refine lv_ishr hx hb dX9_isIn_2 ?_
  refine lv_iconst (v := (1 : Int32)) hx hb dX9_isIn_3 (by decide) ?_
  refine lv_iand hx hb dX9_isIn_4 ?_
  refine lv_if_eq (tgt := 12) hx hb dX9_isIn_5 (by decide) (fun hc => ?_) (fun hc => ?_)
  · have hF := oi_t hc hF
    refine lv_iconst (v := (0 : Int32)) hx hb dX9_isIn_12 (by decide) ?_
    exact wX9_isIn_13 ad A C0 hr hF (lv_sub hl [] rfl)
  · have hF := oi_f hc hF
    refine lv_iconst (v := (1 : Int32)) hx hb dX9_isIn_8 (by decide) ?_
    refine lv_goto (tgt := 13) hx hb dX9_isIn_9 (by decide) ?_
    exact wX9_isIn_13 ad A C0 hr hF (lv_sub hl [] rfl)
set_option maxHeartbeats 4000000 in
set_option maxRecDepth 100000 in
theorem tX9_isIn (l : Launch) (D : va_G) (cy : Nat → ClassId) (ad : Nat → Nat) {a0 : Int32} {a1 : Int32} {r : Int32} (h : fX9_isIn a0 a1 = some r) : Met l yX9_isIn [Cond.code yX9_isIn cX9_isIn 2 (some .boolean)] rmX9_isIn (PcS D cy [.int a0, .int a1]) (QcS (some (.int r))) 0 0 (fun _ => False) := by
  refine met_S (by decide +kernel) cw_X9_isIn (Nat.le_of_ble_eq_true rfl) ?_
  intro p e s m args below meth c ls C0 hr hl
  have hl : lv_has ls 2 [(0, .int a0), (1, .int a1)] := hl
  exact wX9_isIn_0 ad (fun _ => False) C0 hr h hl
set_option maxHeartbeats 4000000 in
set_option maxRecDepth 100000 in
theorem wX9_isBelow_14 {p : Program} {l : Launch} {e : Env} {s : State} {m : MethodId} {args : Array Value} {below : List Frame} {meth : Method} {c : Code} {D : va_G} {cy : Nat → ClassId} (ad : Nat → Nat) (A : Nat → Prop) {r : Int32} {ls : Array Slot} {z0 : Int32} (C0 : CX p s m args meth c RX9 cX9_isBelow 2 D cy) (hr : meth.sig.returnType = some .boolean) (hF : bX9_isBelow_14 z0 = some r) (hl : lv_has ls 2 []) : W p l e rmX9_isBelow s m args below meth c s.heap [] 0 0 (MQ below (QcS (some (.int r))) args s 0 0 (fun _ => False)) (F0 m 14 ls [.int z0]) := by
  unfold bX9_isBelow_14 at hF
  obtain ⟨hx, hb, -, hown, -, hts, -⟩ := id C0
  obtain ⟨z14, hz, hF⟩ := ob hF
  have hz2 := (o_if hz).2
  refine vtopi hz2 ?_
  rw [hz2] at hz
  obtain rfl := (Option.some.inj hF)
  exact rt_SZ C0 hr hz dX9_isBelow_14
set_option maxHeartbeats 4000000 in
set_option maxRecDepth 100000 in
theorem wX9_isBelow_13 {p : Program} {l : Launch} {e : Env} {s : State} {m : MethodId} {args : Array Value} {below : List Frame} {meth : Method} {c : Code} {D : va_G} {cy : Nat → ClassId} (ad : Nat → Nat) (A : Nat → Prop) {r : Int32} {ls : Array Slot} (C0 : CX p s m args meth c RX9 cX9_isBelow 2 D cy) (hr : meth.sig.returnType = some .boolean) (hF : bX9_isBelow_13 = some r) (hl : lv_has ls 2 []) : W p l e rmX9_isBelow s m args below meth c s.heap [] 0 0 (MQ below (QcS (some (.int r))) args s 0 0 (fun _ => False)) (F0 m 13 ls []) := by
  unfold bX9_isBelow_13 at hF
  obtain ⟨hx, hb, -, hown, -, hts, -⟩ := id C0
  refine lv_iconst (v := (0 : Int32)) hx hb dX9_isBelow_13 (by decide) ?_
  exact wX9_isBelow_14 ad A C0 hr hF (lv_sub hl [] rfl)
set_option maxHeartbeats 4000000 in
set_option maxRecDepth 100000 in
theorem wX9_isBelow_0 {p : Program} {l : Launch} {e : Env} {s : State} {m : MethodId} {args : Array Value} {below : List Frame} {meth : Method} {c : Code} {D : va_G} {cy : Nat → ClassId} (ad : Nat → Nat) (A : Nat → Prop) {r : Int32} {ls : Array Slot} {x0 : Int32} {x1 : Int32} (C0 : CX p s m args meth c RX9 cX9_isBelow 2 D cy) (hr : meth.sig.returnType = some .boolean) (hF : bX9_isBelow_0 x0 x1 = some r) (hl : lv_has ls 2 [(0, .int x0), (1, .int x1)]) : W p l e rmX9_isBelow s m args below meth c s.heap [] 0 0 (MQ below (QcS (some (.int r))) args s 0 0 (fun _ => False)) (F0 m 0 ls []) := by
  unfold bX9_isBelow_0 at hF
  obtain ⟨hx, hb, -, hown, -, hts, -⟩ := id C0
  refine lv_iload_n hx hb dX9_isBelow_0 rfl (lv_at hl 0 rfl) ?_
  refine lv_if_lt (tgt := 13) hx hb dX9_isBelow_1 (by decide) (fun hc => ?_) (fun hc => ?_)
  · have hF := oi_t hc hF
    exact wX9_isBelow_13 ad A C0 hr hF (lv_sub hl [] rfl)
  · have hF := oi_f hc hF
    refine lv_iload_n hx hb dX9_isBelow_4 rfl (lv_at hl 0 rfl) ?_
    refine lv_iload_n hx hb dX9_isBelow_5 rfl (lv_at hl 1 rfl) ?_
    refine lv_icmp_ge (tgt := 13) hx hb dX9_isBelow_6 (by decide) (fun hc => ?_) (fun hc => ?_)
    · have hF := oi_t hc hF
      exact wX9_isBelow_13 ad A C0 hr hF (lv_sub hl [] rfl)
    · have hF := oi_f hc hF
      refine lv_iconst (v := (1 : Int32)) hx hb dX9_isBelow_9 (by decide) ?_
      refine lv_goto (tgt := 14) hx hb dX9_isBelow_10 (by decide) ?_
      exact wX9_isBelow_14 ad A C0 hr hF (lv_sub hl [] rfl)
set_option maxHeartbeats 4000000 in
set_option maxRecDepth 100000 in
theorem tX9_isBelow (l : Launch) (D : va_G) (cy : Nat → ClassId) (ad : Nat → Nat) {a0 : Int32} {a1 : Int32} {r : Int32} (h : fX9_isBelow a0 a1 = some r) : Met l yX9_isBelow [Cond.code yX9_isBelow cX9_isBelow 2 (some .boolean)] rmX9_isBelow (PcS D cy [.int a0, .int a1]) (QcS (some (.int r))) 0 0 (fun _ => False) := by
  refine met_S (by decide +kernel) cw_X9_isBelow (Nat.le_of_ble_eq_true rfl) ?_
  intro p e s m args below meth c ls C0 hr hl
  have hl : lv_has ls 2 [(0, .int a0), (1, .int a1)] := hl
  exact wX9_isBelow_0 ad (fun _ => False) C0 hr h hl
set_option maxHeartbeats 4000000 in
set_option maxRecDepth 100000 in
theorem wX9_isPost_0 {p : Program} {l : Launch} {e : Env} {s : State} {m : MethodId} {args : Array Value} {below : List Frame} {meth : Method} {c : Code} {D : va_G} {cy : Nat → ClassId} (ad : Nat → Nat) (A : Nat → Prop) {S : MS} {r : Int32} {ls : Array Slot} {x0 : Nat} {x1 : Int32} (C0 : CX p s m args meth c RX9 cX9_isPost 2 D cy) (M : MW D cy ad A S s.heap) (hr : meth.sig.returnType = some .boolean) (hF : bX9_isPost_0 S x0 x1 = some r) (hl : lv_has ls 2 [(0, .ref (ad x0)), (1, .int x1)]) : W p l e rmX9_isPost s m args below meth c s.heap [] 0 0 (MQ below (QcS (some (.int r))) args s 0 0 (fun _ => False)) (F0 m 0 ls []) := by
  unfold bX9_isPost_0 at hF
  obtain ⟨hx, hb, -, hown, -, hts, -⟩ := id C0
  refine lv_iload_n hx hb dX9_isPost_0 rfl (lv_at hl 1 rfl) ?_
  refine lv_aload_n hx hb dX9_isPost_1 rfl (lv_at hl 0 rfl) ?_
  obtain ⟨v2, hv, hF⟩ := ob hF
  refine k_getP C0 M hv fl_X9_12 dX9_isPost_2 ?_
  obtain ⟨v5, hv, hF⟩ := ob hF
  refine k_getP C0 M hv fl_X9_90 dX9_isPost_5 ?_
  obtain ⟨_, hrec, hF⟩ := ob hF
  obtain ⟨v8, hcl, hF⟩ := ob hF
  refine go_SI (r_V (rest := [.int x1]) (As := []) C0 cb_X9_93 M hrec (tJx4a65c_size_8abf5 l D cy ad A hcl) (pre_R C0 M) hl dX9_isPost_8 rfl (Nat.le_of_ble_eq_true rfl) ⟨rfl, rfl⟩ ⟨Nat.le_of_ble_eq_true rfl, Nat.le_of_ble_eq_true rfl⟩ ⟨Nat.le_of_ble_eq_true rfl, Nat.le_of_ble_eq_true rfl⟩ rfl) ?_
  obtain ⟨v11, hcl, hF⟩ := ob hF
  refine go_SI (r_S (rest := []) (As := [.int x1, .int v8]) C0 cb_X9_79 (tX9_isBelow l D cy ad hcl) (pre_S C0) hl dX9_isPost_11 rfl (Nat.le_of_ble_eq_true rfl) ⟨rfl, rfl⟩ ⟨Nat.le_of_ble_eq_true rfl, Nat.le_of_ble_eq_true rfl⟩ ⟨Nat.le_of_ble_eq_true rfl, Nat.le_of_ble_eq_true rfl⟩ rfl) ?_
  obtain ⟨z14, hz, hF⟩ := ob hF
  have hz2 := (o_if hz).2
  refine vtopi hz2 ?_
  rw [hz2] at hz
  obtain rfl := (Option.some.inj hF)
  exact rt_SZ C0 hr hz dX9_isPost_14
set_option maxHeartbeats 4000000 in
set_option maxRecDepth 100000 in
theorem tX9_isPost (l : Launch) (D : va_G) (cy : Nat → ClassId) (ad : Nat → Nat) (A : Nat → Prop) {S : MS} {a0 : Nat} {a1 : Int32} {r : Int32} (h : fX9_isPost S a0 a1 = some r) : Met l yX9_isPost [Cond.code yX9_isPost cX9_isPost 2 (some .boolean)] rmX9_isPost (PcR D cy ad A S [.ref (ad a0), .int a1]) (QcS (some (.int r))) 0 0 (fun _ => False) := by
  refine met_R (by decide +kernel) cw_X9_isPost (Nat.le_of_ble_eq_true rfl) ?_
  intro p e s m args below meth c ls C0 M hr hl
  have hl : lv_has ls 2 [(0, .ref (ad a0)), (1, .int a1)] := hl
  exact wX9_isPost_0 ad A C0 M hr h hl
set_option maxHeartbeats 4000000 in
set_option maxRecDepth 100000 in
theorem wX0_leavesPeace_0 {p : Program} {l : Launch} {e : Env} {s : State} {m : MethodId} {args : Array Value} {below : List Frame} {meth : Method} {c : Code} {D : va_G} {cy : Nat → ClassId} (ad : Nat → Nat) (A : Nat → Prop) {S : MS} {r : Int32} {out : ((Nat × Int32 × Int32 × Int32) ⊕ Int32)} {ls : Array Slot} {x0 : Nat} {x1 : Int32} {x2 : Int32} (C0 : CX p s m args meth c RX0 cX0_leavesPeace 4 D cy) (M : MW D cy ad A S s.heap) (hr : meth.sig.returnType = some .boolean) (hF : bX0_leavesPeace_0 S x0 x1 x2 = some out) (hl : lv_has ls 4 [(0, .ref (ad x0)), (1, .int x1), (2, .int x2)]) (Kr : ∀ r9, out = .inr r9 → r9 = r) (Kh0 : ∀ (y0 : Nat) (y1 : Int32) (y2 : Int32) (y3 : Int32), out = .inl (y0, y1, y2, y3) → ∀ (ls1 : Array Slot), lv_has ls1 4 [(0, .ref (ad y0)), (1, .int y1), (2, .int y2), (3, .int y3)] → W p l e rmX0_leavesPeace s m args below meth c s.heap [] 0 0 (MQ below (QcS (some (.int r))) args s 0 0 (fun _ => False)) (F0 m 2 ls1 [])) : W p l e rmX0_leavesPeace s m args below meth c s.heap [] 0 0 (MQ below (QcS (some (.int r))) args s 0 0 (fun _ => False)) (F0 m 0 ls []) := by
  unfold bX0_leavesPeace_0 at hF
  obtain ⟨hx, hb, -, hown, -, hts, -⟩ := id C0
  refine lv_iconst (v := (0 : Int32)) hx hb dX0_leavesPeace_0 (by decide) ?_
  refine lv_istore_n (lv' := [(3, .int (0 : Int32)), (0, .ref (ad x0)), (1, .int x1), (2, .int x2)]) hx hb dX0_leavesPeace_1 rfl hl (by decide) rfl (fun ls hl => ?_)
  exact Kh0 _ _ _ _ (Option.some.inj hF).symm _ (lv_sub hl [1, 2, 3, 0] rfl)
set_option maxHeartbeats 4000000 in
set_option maxRecDepth 100000 in
theorem wX0_leavesPeace_30 {p : Program} {l : Launch} {e : Env} {s : State} {m : MethodId} {args : Array Value} {below : List Frame} {meth : Method} {c : Code} {D : va_G} {cy : Nat → ClassId} (ad : Nat → Nat) (A : Nat → Prop) {S : MS} {r : Int32} {out : ((Nat × Int32 × Int32 × Int32) ⊕ Int32)} {ls : Array Slot} {x0 : Nat} {x1 : Int32} {x2 : Int32} {x3 : Int32} (C0 : CX p s m args meth c RX0 cX0_leavesPeace 4 D cy) (M : MW D cy ad A S s.heap) (hr : meth.sig.returnType = some .boolean) (hF : bX0_leavesPeace_30 S x0 x1 x2 x3 = some out) (hl : lv_has ls 4 [(0, .ref (ad x0)), (1, .int x1), (2, .int x2), (3, .int x3)]) (Kr : ∀ r9, out = .inr r9 → r9 = r) (Kh0 : ∀ (y0 : Nat) (y1 : Int32) (y2 : Int32) (y3 : Int32), out = .inl (y0, y1, y2, y3) → ∀ (ls1 : Array Slot), lv_has ls1 4 [(0, .ref (ad y0)), (1, .int y1), (2, .int y2), (3, .int y3)] → W p l e rmX0_leavesPeace s m args below meth c s.heap [] 0 0 (MQ below (QcS (some (.int r))) args s 0 0 (fun _ => False)) (F0 m 2 ls1 [])) : W p l e rmX0_leavesPeace s m args below meth c s.heap [] 0 0 (MQ below (QcS (some (.int r))) args s 0 0 (fun _ => False)) (F0 m 30 ls []) := by
  unfold bX0_leavesPeace_30 at hF
  obtain ⟨hx, hb, -, hown, -, hts, -⟩ := id C0
  obtain ⟨v30, hv, hF⟩ := ob hF
  refine lv_iinc (v := v30) (lv' := [(3, .int v30), (0, .ref (ad x0)), (1, .int x1), (2, .int x2)]) hx hb dX0_leavesPeace_30 hl (k := 3) rfl (by rw [← vtI hv]; rfl) (by decide) rfl (fun ls hl => ?_)
  refine lv_goto (tgt := 2) hx hb dX0_leavesPeace_33 (by decide) ?_
  exact Kh0 _ _ _ _ (Option.some.inj hF).symm _ (lv_sub hl [1, 2, 3, 0] rfl)
set_option maxHeartbeats 4000000 in
set_option maxRecDepth 100000 in
theorem wX0_leavesPeace_2 {p : Program} {l : Launch} {e : Env} {s : State} {m : MethodId} {args : Array Value} {below : List Frame} {meth : Method} {c : Code} {D : va_G} {cy : Nat → ClassId} (ad : Nat → Nat) (A : Nat → Prop) {S : MS} {r : Int32} {out : ((Nat × Int32 × Int32 × Int32) ⊕ Int32)} {ls : Array Slot} {x0 : Nat} {x1 : Int32} {x2 : Int32} {x3 : Int32} (C0 : CX p s m args meth c RX0 cX0_leavesPeace 4 D cy) (M : MW D cy ad A S s.heap) (hr : meth.sig.returnType = some .boolean) (hF : bX0_leavesPeace_2 S x0 x1 x2 x3 = some out) (hl : lv_has ls 4 [(0, .ref (ad x0)), (1, .int x1), (2, .int x2), (3, .int x3)]) (Kr : ∀ r9, out = .inr r9 → r9 = r) (Kh0 : ∀ (y0 : Nat) (y1 : Int32) (y2 : Int32) (y3 : Int32), out = .inl (y0, y1, y2, y3) → ∀ (ls1 : Array Slot), lv_has ls1 4 [(0, .ref (ad y0)), (1, .int y1), (2, .int y2), (3, .int y3)] → W p l e rmX0_leavesPeace s m args below meth c s.heap [] 0 0 (MQ below (QcS (some (.int r))) args s 0 0 (fun _ => False)) (F0 m 2 ls1 [])) : W p l e rmX0_leavesPeace s m args below meth c s.heap [] 0 0 (MQ below (QcS (some (.int r))) args s 0 0 (fun _ => False)) (F0 m 2 ls []) := by
  unfold bX0_leavesPeace_2 at hF
  obtain ⟨hx, hb, -, hown, -, hts, -⟩ := id C0
  refine lv_iload_n hx hb dX0_leavesPeace_2 rfl (lv_at hl 3 rfl) ?_
  refine lv_iload_n hx hb dX0_leavesPeace_3 rfl (lv_at hl 2 rfl) ?_
  refine lv_icmp_ge (tgt := 36) hx hb dX0_leavesPeace_4 (by decide) (fun hc => ?_) (fun hc => ?_)
  · have hF := oi_t hc hF
    refine lv_iconst (v := (1 : Int32)) hx hb dX0_leavesPeace_36 (by decide) ?_
    have hz : o_zb (1 : Int32) = some (1 : Int32) := rfl
    obtain rfl := (Kr _ (Option.some.inj hF).symm)
    exact rt_SZ C0 hr hz dX0_leavesPeace_37
  · have hF := oi_f hc hF
    refine lv_iload_n hx hb dX0_leavesPeace_7 rfl (lv_at hl 1 rfl) ?_
    refine lv_iload_n hx hb dX0_leavesPeace_8 rfl (lv_at hl 3 rfl) ?_
    obtain ⟨v9, hcl, hF⟩ := ob hF
    refine go_SI (r_SN (rest := []) (As := [.int x1, .int x3]) C0 cb_X0_87 (tX9_isIn l D cy ad hcl) (pre_S C0) hl dX0_leavesPeace_9 rfl (Nat.le_of_ble_eq_true rfl) ⟨rfl, rfl⟩ ⟨Nat.le_of_ble_eq_true rfl, Nat.le_of_ble_eq_true rfl⟩ ⟨Nat.le_of_ble_eq_true rfl, Nat.le_of_ble_eq_true rfl⟩ rfl) ?_
    refine lv_if_ne (tgt := 30) hx hb dX0_leavesPeace_12 (by decide) (fun hc => ?_) (fun hc => ?_)
    · have hF := oi_f hc hF
      exact wX0_leavesPeace_30 ad A C0 M hr hF (lv_sub hl [0, 1, 2, 3] rfl) Kr Kh0
    · have hF := oi_t hc hF
      refine lv_aload_n hx hb dX0_leavesPeace_15 rfl (lv_at hl 0 rfl) ?_
      obtain ⟨v16, hv, hF⟩ := ob hF
      refine k_getP C0 M hv fl_X0_19 dX0_leavesPeace_16 ?_
      refine lv_iload_n hx hb dX0_leavesPeace_19 rfl (lv_at hl 3 rfl) ?_
      obtain ⟨v20, hv, hF⟩ := ob hF
      refine k_ld C0 M hv dX0_leavesPeace_20 ?_
      refine lv_iload_n hx hb dX0_leavesPeace_21 rfl (lv_at hl 1 rfl) ?_
      refine lv_iconst (v := (-1 : Int32)) hx hb dX0_leavesPeace_22 (by decide) ?_
      refine lv_ixor hx hb dX0_leavesPeace_23 ?_
      refine lv_iand hx hb dX0_leavesPeace_24 ?_
      refine lv_if_eq (tgt := 30) hx hb dX0_leavesPeace_25 (by decide) (fun hc => ?_) (fun hc => ?_)
      · have hF := oi_t hc hF
        exact wX0_leavesPeace_30 ad A C0 M hr hF (lv_sub hl [0, 1, 2, 3] rfl) Kr Kh0
      · have hF := oi_f hc hF
        refine lv_iconst (v := (0 : Int32)) hx hb dX0_leavesPeace_28 (by decide) ?_
        have hz : o_zb (0 : Int32) = some (0 : Int32) := rfl
        obtain rfl := (Kr _ (Option.some.inj hF).symm)
        exact rt_SZ C0 hr hz dX0_leavesPeace_29
set_option maxHeartbeats 4000000 in
set_option maxRecDepth 100000 in
theorem tX0_leavesPeace (l : Launch) (D : va_G) (cy : Nat → ClassId) (ad : Nat → Nat) (A : Nat → Prop) {S : MS} {a0 : Nat} {a1 : Int32} {a2 : Int32} {r : Int32} (h : fX0_leavesPeace S a0 a1 a2 = some r) : Met l yX0_leavesPeace [Cond.code yX0_leavesPeace cX0_leavesPeace 4 (some .boolean)] rmX0_leavesPeace (PcR D cy ad A S [.ref (ad a0), .int a1, .int a2]) (QcS (some (.int r))) 0 0 (fun _ => False) := by
  refine met_R (by decide +kernel) cw_X0_leavesPeace (Nat.le_of_ble_eq_true rfl) ?_
  intro p e s m args below meth c ls C0 M hr hl
  have hl : lv_has ls 4 [(0, .ref (ad a0)), (1, .int a1), (2, .int a2)] := hl
  have key := lim_walk (step := sX0_leavesPeace S) (fun (q : (Nat × Int32 × Int32 × Int32)) (r9 : Int32) => ∀ (r : Int32), r9 = r → ((∀ (y0 : Nat) (y1 : Int32) (y2 : Int32) (y3 : Int32), q = (y0, y1, y2, y3) → ∀ (ls1 : Array Slot), lv_has ls1 4 [(0, .ref (ad y0)), (1, .int y1), (2, .int y2), (3, .int y3)] → W p l e rmX0_leavesPeace s m args below meth c s.heap [] 0 0 (MQ below (QcS (some (.int r))) args s 0 0 (fun _ => False)) (F0 m 2 ls1 [])))) ?_
  · unfold fX0_leavesPeace at h
    cases hs0 : bX0_leavesPeace_0 S a0 a1 a2 with
    | none => rw [hs0] at h; cases h
    | some out =>
      rw [hs0] at h
      refine wX0_leavesPeace_0 ad A C0 M hr hs0 hl (fun r9 hr9 => ?_) ?_
      · subst hr9; exact Option.some.inj h
      · intro y0 y1 y2 y3 hq; subst hq; exact (key _ _ h _ rfl) _ _ _ _ rfl
  · intro q r9 out hst hre hin9
    intro r er; subst er
    refine ?_
    · intro y0 y1 y2 y3 hq ls1 hl
      subst hq
      exact wX0_leavesPeace_2 ad A C0 M hr hst hl hre (fun k0 k1 k2 k3 hk => (hin9 _ hk _ rfl) _ _ _ _ rfl)
set_option maxHeartbeats 4000000 in
set_option maxRecDepth 100000 in
theorem wX0_fewestDoubts_0 {p : Program} {l : Launch} {e : Env} {s : State} {m : MethodId} {args : Array Value} {below : List Frame} {meth : Method} {c : Code} {D : va_G} {cy : Nat → ClassId} (ad : Nat → Nat) (A : Nat → Prop) {S : MS} {r : Int32} {out : ((Nat × Int32 × Int32 × Int32 × Int32) ⊕ Int32)} {ls : Array Slot} {x0 : Nat} {x1 : Int32} (C0 : CX p s m args meth c RX0 cX0_fewestDoubts 6 D cy) (M : MW D cy ad A S s.heap) (hr : meth.sig.returnType = some .int) (hF : bX0_fewestDoubts_0 S x0 x1 = some out) (hl : lv_has ls 6 [(0, .ref (ad x0)), (1, .int x1)]) (Kr : ∀ r9, out = .inr r9 → r9 = r) (Kh0 : ∀ (y0 : Nat) (y1 : Int32) (y2 : Int32) (y3 : Int32) (y4 : Int32), out = .inl (y0, y1, y2, y3, y4) → ∀ (ls1 : Array Slot), lv_has ls1 6 [(0, .ref (ad y0)), (1, .int y1), (2, .int y2), (3, .int y3), (4, .int y4)] → W p l e rmX0_fewestDoubts s m args below meth c s.heap [] 0 0 (MQ below (QcS (some (.int r))) args s 0 0 (fun _ => False)) (F0 m 9 ls1 [])) : W p l e rmX0_fewestDoubts s m args below meth c s.heap [] 0 0 (MQ below (QcS (some (.int r))) args s 0 0 (fun _ => False)) (F0 m 0 ls []) := by
  unfold bX0_fewestDoubts_0 at hF
  obtain ⟨hx, hb, -, hown, -, hts, -⟩ := id C0
  refine lv_iconst (v := (0 : Int32)) hx hb dX0_fewestDoubts_0 (by decide) ?_
  refine lv_istore_n (lv' := [(2, .int (0 : Int32)), (0, .ref (ad x0)), (1, .int x1)]) hx hb dX0_fewestDoubts_1 rfl hl (by decide) rfl (fun ls hl => ?_)
  refine lv_iload_n hx hb dX0_fewestDoubts_2 rfl (lv_at hl 2 rfl) ?_
  refine lv_iconst (v := (1 : Int32)) hx hb dX0_fewestDoubts_3 (by decide) ?_
  refine lv_iadd hx hb dX0_fewestDoubts_4 ?_
  obtain ⟨v5, hv, hF⟩ := ob hF
  have hv := vtI hv
  refine vtopi hv ?_
  refine lv_istore_n (lv' := [(3, .int v5), (2, .int (0 : Int32)), (0, .ref (ad x0)), (1, .int x1)]) hx hb dX0_fewestDoubts_5 rfl hl (by decide) rfl (fun ls hl => ?_)
  refine lv_iconst (v := (0 : Int32)) hx hb dX0_fewestDoubts_6 (by decide) ?_
  refine lv_istore (lv' := [(4, .int (0 : Int32)), (3, .int v5), (2, .int (0 : Int32)), (0, .ref (ad x0)), (1, .int x1)]) hx hb dX0_fewestDoubts_7 hl (by decide) rfl (fun ls hl => ?_)
  exact Kh0 _ _ _ _ _ (Option.some.inj hF).symm _ (lv_sub hl [3, 4, 2, 1, 0] rfl)
set_option maxHeartbeats 4000000 in
set_option maxRecDepth 100000 in
theorem wX0_fewestDoubts_50 {p : Program} {l : Launch} {e : Env} {s : State} {m : MethodId} {args : Array Value} {below : List Frame} {meth : Method} {c : Code} {D : va_G} {cy : Nat → ClassId} (ad : Nat → Nat) (A : Nat → Prop) {S : MS} {r : Int32} {out : ((Nat × Int32 × Int32 × Int32 × Int32) ⊕ Int32)} {ls : Array Slot} {x0 : Nat} {x1 : Int32} {x2 : Int32} {x3 : Int32} {x4 : Int32} (C0 : CX p s m args meth c RX0 cX0_fewestDoubts 6 D cy) (M : MW D cy ad A S s.heap) (hr : meth.sig.returnType = some .int) (hF : bX0_fewestDoubts_50 S x0 x1 x2 x3 x4 = some out) (hl : lv_has ls 6 [(0, .ref (ad x0)), (1, .int x1), (2, .int x2), (3, .int x3), (4, .int x4)]) (Kr : ∀ r9, out = .inr r9 → r9 = r) (Kh0 : ∀ (y0 : Nat) (y1 : Int32) (y2 : Int32) (y3 : Int32) (y4 : Int32), out = .inl (y0, y1, y2, y3, y4) → ∀ (ls1 : Array Slot), lv_has ls1 6 [(0, .ref (ad y0)), (1, .int y1), (2, .int y2), (3, .int y3), (4, .int y4)] → W p l e rmX0_fewestDoubts s m args below meth c s.heap [] 0 0 (MQ below (QcS (some (.int r))) args s 0 0 (fun _ => False)) (F0 m 9 ls1 [])) : W p l e rmX0_fewestDoubts s m args below meth c s.heap [] 0 0 (MQ below (QcS (some (.int r))) args s 0 0 (fun _ => False)) (F0 m 50 ls []) := by
  unfold bX0_fewestDoubts_50 at hF
  obtain ⟨hx, hb, -, hown, -, hts, -⟩ := id C0
  obtain ⟨v50, hv, hF⟩ := ob hF
  refine lv_iinc (v := v50) (lv' := [(4, .int v50), (0, .ref (ad x0)), (1, .int x1), (2, .int x2), (3, .int x3)]) hx hb dX0_fewestDoubts_50 hl (k := 4) rfl (by rw [← vtI hv]; rfl) (by decide) rfl (fun ls hl => ?_)
  refine lv_goto (tgt := 9) hx hb dX0_fewestDoubts_53 (by decide) ?_
  exact Kh0 _ _ _ _ _ (Option.some.inj hF).symm _ (lv_sub hl [1, 2, 3, 4, 0] rfl)
set_option maxHeartbeats 4000000 in
set_option maxRecDepth 100000 in
theorem wX0_fewestDoubts_56 {p : Program} {l : Launch} {e : Env} {s : State} {m : MethodId} {args : Array Value} {below : List Frame} {meth : Method} {c : Code} {D : va_G} {cy : Nat → ClassId} (ad : Nat → Nat) (A : Nat → Prop) {S : MS} {r : Int32} {out : ((Nat × Int32 × Int32 × Int32 × Int32) ⊕ Int32)} {ls : Array Slot} {x2 : Int32} (C0 : CX p s m args meth c RX0 cX0_fewestDoubts 6 D cy) (M : MW D cy ad A S s.heap) (hr : meth.sig.returnType = some .int) (hF : bX0_fewestDoubts_56 S x2 = some out) (hl : lv_has ls 6 [(2, .int x2)]) (Kr : ∀ r9, out = .inr r9 → r9 = r) (Kh0 : ∀ (y0 : Nat) (y1 : Int32) (y2 : Int32) (y3 : Int32) (y4 : Int32), out = .inl (y0, y1, y2, y3, y4) → ∀ (ls1 : Array Slot), lv_has ls1 6 [(0, .ref (ad y0)), (1, .int y1), (2, .int y2), (3, .int y3), (4, .int y4)] → W p l e rmX0_fewestDoubts s m args below meth c s.heap [] 0 0 (MQ below (QcS (some (.int r))) args s 0 0 (fun _ => False)) (F0 m 9 ls1 [])) : W p l e rmX0_fewestDoubts s m args below meth c s.heap [] 0 0 (MQ below (QcS (some (.int r))) args s 0 0 (fun _ => False)) (F0 m 56 ls []) := by
  unfold bX0_fewestDoubts_56 at hF
  obtain ⟨hx, hb, -, hown, -, hts, -⟩ := id C0
  refine lv_iload_n hx hb dX0_fewestDoubts_56 rfl (lv_at hl 0 rfl) ?_
  obtain rfl := (Kr _ (Option.some.inj hF).symm)
  exact rt_SI C0 hr dX0_fewestDoubts_57
set_option maxHeartbeats 4000000 in
set_option maxRecDepth 100000 in
theorem wX0_fewestDoubts_9 {p : Program} {l : Launch} {e : Env} {s : State} {m : MethodId} {args : Array Value} {below : List Frame} {meth : Method} {c : Code} {D : va_G} {cy : Nat → ClassId} (ad : Nat → Nat) (A : Nat → Prop) {S : MS} {r : Int32} {out : ((Nat × Int32 × Int32 × Int32 × Int32) ⊕ Int32)} {ls : Array Slot} {x0 : Nat} {x1 : Int32} {x2 : Int32} {x3 : Int32} {x4 : Int32} (C0 : CX p s m args meth c RX0 cX0_fewestDoubts 6 D cy) (M : MW D cy ad A S s.heap) (hr : meth.sig.returnType = some .int) (hF : bX0_fewestDoubts_9 S x0 x1 x2 x3 x4 = some out) (hl : lv_has ls 6 [(0, .ref (ad x0)), (1, .int x1), (2, .int x2), (3, .int x3), (4, .int x4)]) (Kr : ∀ r9, out = .inr r9 → r9 = r) (Kh0 : ∀ (y0 : Nat) (y1 : Int32) (y2 : Int32) (y3 : Int32) (y4 : Int32), out = .inl (y0, y1, y2, y3, y4) → ∀ (ls1 : Array Slot), lv_has ls1 6 [(0, .ref (ad y0)), (1, .int y1), (2, .int y2), (3, .int y3), (4, .int y4)] → W p l e rmX0_fewestDoubts s m args below meth c s.heap [] 0 0 (MQ below (QcS (some (.int r))) args s 0 0 (fun _ => False)) (F0 m 9 ls1 [])) : W p l e rmX0_fewestDoubts s m args below meth c s.heap [] 0 0 (MQ below (QcS (some (.int r))) args s 0 0 (fun _ => False)) (F0 m 9 ls []) := by
  unfold bX0_fewestDoubts_9 at hF
  obtain ⟨hx, hb, -, hown, -, hts, -⟩ := id C0
  refine lv_iload hx hb dX0_fewestDoubts_9 (lv_at hl 4 rfl) ?_
  refine lv_iconst (v := (1 : Int32)) hx hb dX0_fewestDoubts_11 (by decide) ?_
  refine lv_iload_n hx hb dX0_fewestDoubts_12 rfl (lv_at hl 1 rfl) ?_
  refine lv_ishl hx hb dX0_fewestDoubts_13 ?_
  refine lv_icmp_ge (tgt := 56) hx hb dX0_fewestDoubts_14 (by decide) (fun hc => ?_) (fun hc => ?_)
  · have hF := oi_t hc hF
    exact wX0_fewestDoubts_56 ad A C0 M hr hF (lv_sub hl [2] rfl) Kr Kh0
  · have hF := oi_f hc hF
    refine lv_iload_n hx hb dX0_fewestDoubts_17 rfl (lv_at hl 3 rfl) ?_
    refine lv_if_le (tgt := 56) hx hb dX0_fewestDoubts_18 (by decide) (fun hc => ?_) (fun hc => ?_)
    · have hF := oi_t hc hF
      exact wX0_fewestDoubts_56 ad A C0 M hr hF (lv_sub hl [2] rfl) Kr Kh0
    · have hF := oi_f hc hF
      refine lv_iload hx hb dX0_fewestDoubts_21 (lv_at hl 4 rfl) ?_
      obtain ⟨v23, hcl, hF⟩ := ob hF
      refine go_SI (r_S (rest := []) (As := [.int x4]) C0 cb_X0_102 (tJ6_bitCount_0f7a4 l D cy ad hcl) (pre_S C0) hl dX0_fewestDoubts_23 rfl (Nat.le_of_ble_eq_true rfl) ⟨rfl, rfl⟩ ⟨Nat.le_of_ble_eq_true rfl, Nat.le_of_ble_eq_true rfl⟩ ⟨Nat.le_of_ble_eq_true rfl, Nat.le_of_ble_eq_true rfl⟩ rfl) ?_
      refine lv_istore (lv' := [(5, .int v23), (0, .ref (ad x0)), (1, .int x1), (2, .int x2), (3, .int x3), (4, .int x4)]) hx hb dX0_fewestDoubts_26 hl (by decide) rfl (fun ls hl => ?_)
      refine lv_iload hx hb dX0_fewestDoubts_28 (lv_at hl 0 rfl) ?_
      refine lv_iload_n hx hb dX0_fewestDoubts_30 rfl (lv_at hl 4 rfl) ?_
      refine lv_icmp_ge (tgt := 50) hx hb dX0_fewestDoubts_31 (by decide) (fun hc => ?_) (fun hc => ?_)
      · have hF := oi_t hc hF
        exact wX0_fewestDoubts_50 ad A C0 M hr hF (lv_sub hl [1, 2, 3, 4, 5] rfl) Kr Kh0
      · have hF := oi_f hc hF
        refine lv_aload_n hx hb dX0_fewestDoubts_34 rfl (lv_at hl 1 rfl) ?_
        refine lv_iload hx hb dX0_fewestDoubts_35 (lv_at hl 5 rfl) ?_
        refine lv_iload_n hx hb dX0_fewestDoubts_37 rfl (lv_at hl 2 rfl) ?_
        obtain ⟨_, hrec, hF⟩ := ob hF
        obtain ⟨v38, hcl, hF⟩ := ob hF
        refine go_SI (r_V (rest := []) (As := [.int x4, .int x1]) C0 cb_X0_107 M hrec (tX0_leavesPeace l D cy ad A hcl) (pre_R C0 M) hl dX0_fewestDoubts_38 rfl (Nat.le_of_ble_eq_true rfl) ⟨rfl, rfl⟩ ⟨Nat.le_of_ble_eq_true rfl, Nat.le_of_ble_eq_true rfl⟩ ⟨Nat.le_of_ble_eq_true rfl, Nat.le_of_ble_eq_true rfl⟩ rfl) ?_
        refine lv_if_eq (tgt := 50) hx hb dX0_fewestDoubts_41 (by decide) (fun hc => ?_) (fun hc => ?_)
        · have hF := oi_t hc hF
          exact wX0_fewestDoubts_50 ad A C0 M hr hF (lv_sub hl [1, 2, 3, 4, 5] rfl) Kr Kh0
        · have hF := oi_f hc hF
          refine lv_iload hx hb dX0_fewestDoubts_44 (lv_at hl 5 rfl) ?_
          refine lv_istore_n (lv' := [(2, .int x4), (5, .int v23), (0, .ref (ad x0)), (1, .int x1), (3, .int x3), (4, .int x4)]) hx hb dX0_fewestDoubts_46 rfl hl (by decide) rfl (fun ls hl => ?_)
          refine lv_iload hx hb dX0_fewestDoubts_47 (lv_at hl 1 rfl) ?_
          refine lv_istore_n (lv' := [(3, .int v23), (2, .int x4), (5, .int v23), (0, .ref (ad x0)), (1, .int x1), (4, .int x4)]) hx hb dX0_fewestDoubts_49 rfl hl (by decide) rfl (fun ls hl => ?_)
          exact wX0_fewestDoubts_50 ad A C0 M hr hF (lv_sub hl [3, 4, 1, 0, 5] rfl) Kr Kh0
set_option maxHeartbeats 4000000 in
set_option maxRecDepth 100000 in
theorem tX0_fewestDoubts (l : Launch) (D : va_G) (cy : Nat → ClassId) (ad : Nat → Nat) (A : Nat → Prop) {S : MS} {a0 : Nat} {a1 : Int32} {r : Int32} (h : fX0_fewestDoubts S a0 a1 = some r) : Met l yX0_fewestDoubts [Cond.code yX0_fewestDoubts cX0_fewestDoubts 6 (some .int)] rmX0_fewestDoubts (PcR D cy ad A S [.ref (ad a0), .int a1]) (QcS (some (.int r))) 0 0 (fun _ => False) := by
  refine met_R (by decide +kernel) cw_X0_fewestDoubts (Nat.le_of_ble_eq_true rfl) ?_
  intro p e s m args below meth c ls C0 M hr hl
  have hl : lv_has ls 6 [(0, .ref (ad a0)), (1, .int a1)] := hl
  have key := lim_walk (step := sX0_fewestDoubts S) (fun (q : (Nat × Int32 × Int32 × Int32 × Int32)) (r9 : Int32) => ∀ (r : Int32), r9 = r → ((∀ (y0 : Nat) (y1 : Int32) (y2 : Int32) (y3 : Int32) (y4 : Int32), q = (y0, y1, y2, y3, y4) → ∀ (ls1 : Array Slot), lv_has ls1 6 [(0, .ref (ad y0)), (1, .int y1), (2, .int y2), (3, .int y3), (4, .int y4)] → W p l e rmX0_fewestDoubts s m args below meth c s.heap [] 0 0 (MQ below (QcS (some (.int r))) args s 0 0 (fun _ => False)) (F0 m 9 ls1 [])))) ?_
  · unfold fX0_fewestDoubts at h
    cases hs0 : bX0_fewestDoubts_0 S a0 a1 with
    | none => rw [hs0] at h; cases h
    | some out =>
      rw [hs0] at h
      refine wX0_fewestDoubts_0 ad A C0 M hr hs0 hl (fun r9 hr9 => ?_) ?_
      · subst hr9; exact Option.some.inj h
      · intro y0 y1 y2 y3 y4 hq; subst hq; exact (key _ _ h _ rfl) _ _ _ _ _ rfl
  · intro q r9 out hst hre hin9
    intro r er; subst er
    refine ?_
    · intro y0 y1 y2 y3 y4 hq ls1 hl
      subst hq
      exact wX0_fewestDoubts_9 ad A C0 M hr hst hl hre (fun k0 k1 k2 k3 k4 hk => (hin9 _ hk _ rfl) _ _ _ _ _ rfl)
set_option maxHeartbeats 4000000 in
set_option maxRecDepth 100000 in
theorem wX9_stepsBetween_0 {p : Program} {l : Launch} {e : Env} {s : State} {m : MethodId} {args : Array Value} {below : List Frame} {meth : Method} {c : Code} {D : va_G} {cy : Nat → ClassId} (ad : Nat → Nat) (A : Nat → Prop) {r : Int32} {ls : Array Slot} {x0 : Int32} {x1 : Int32} (C0 : CX p s m args meth c RX9 cX9_stepsBetween 4 D cy) (hr : meth.sig.returnType = some .int) (hF : bX9_stepsBetween_0 x0 x1 = some r) (hl : lv_has ls 4 [(0, .int x0), (1, .int x1)]) : W p l e rmX9_stepsBetween s m args below meth c s.heap [] 0 0 (MQ below (QcS (some (.int r))) args s 0 0 (fun _ => False)) (F0 m 0 ls []) := by
  unfold bX9_stepsBetween_0 at hF
  obtain ⟨hx, hb, -, hown, -, hts, -⟩ := id C0
  refine lv_iload_n hx hb dX9_stepsBetween_0 rfl (lv_at hl 0 rfl) ?_
  refine lv_bipush (v := (12 : Int32)) hx hb dX9_stepsBetween_1 (by decide) ?_
  refine lv_irem hx hb dX9_stepsBetween_3 (by decide) ?_
  refine lv_iload_n hx hb dX9_stepsBetween_4 rfl (lv_at hl 1 rfl) ?_
  refine lv_bipush (v := (12 : Int32)) hx hb dX9_stepsBetween_5 (by decide) ?_
  refine lv_irem hx hb dX9_stepsBetween_7 (by decide) ?_
  refine lv_isub hx hb dX9_stepsBetween_8 ?_
  obtain ⟨v9, hcl, hF⟩ := ob hF
  refine go_SI (r_S (rest := []) (As := [.int ((x0 - x0 / (12 : Int32) * (12 : Int32)) - (x1 - x1 / (12 : Int32) * (12 : Int32)))]) C0 cb_X9_388 (tJ9_abs_0f7a4 l D cy ad hcl) (pre_S C0) hl dX9_stepsBetween_9 rfl (Nat.le_of_ble_eq_true rfl) ⟨rfl, rfl⟩ ⟨Nat.le_of_ble_eq_true rfl, Nat.le_of_ble_eq_true rfl⟩ ⟨Nat.le_of_ble_eq_true rfl, Nat.le_of_ble_eq_true rfl⟩ rfl) ?_
  refine lv_istore_n (lv' := [(2, .int v9), (0, .int x0), (1, .int x1)]) hx hb dX9_stepsBetween_12 rfl hl (by decide) rfl (fun ls hl => ?_)
  refine lv_iload_n hx hb dX9_stepsBetween_13 rfl (lv_at hl 1 rfl) ?_
  refine lv_bipush (v := (12 : Int32)) hx hb dX9_stepsBetween_14 (by decide) ?_
  refine lv_idiv hx hb dX9_stepsBetween_16 (by decide) ?_
  refine lv_iload_n hx hb dX9_stepsBetween_17 rfl (lv_at hl 2 rfl) ?_
  refine lv_bipush (v := (12 : Int32)) hx hb dX9_stepsBetween_18 (by decide) ?_
  refine lv_idiv hx hb dX9_stepsBetween_20 (by decide) ?_
  refine lv_isub hx hb dX9_stepsBetween_21 ?_
  obtain ⟨v22, hcl, hF⟩ := ob hF
  refine go_SI (r_S (rest := []) (As := [.int ((x0 / (12 : Int32)) - (x1 / (12 : Int32)))]) C0 cb_X9_388 (tJ9_abs_0f7a4 l D cy ad hcl) (pre_S C0) hl dX9_stepsBetween_22 rfl (Nat.le_of_ble_eq_true rfl) ⟨rfl, rfl⟩ ⟨Nat.le_of_ble_eq_true rfl, Nat.le_of_ble_eq_true rfl⟩ ⟨Nat.le_of_ble_eq_true rfl, Nat.le_of_ble_eq_true rfl⟩ rfl) ?_
  refine lv_istore_n (lv' := [(3, .int v22), (2, .int v9), (0, .int x0), (1, .int x1)]) hx hb dX9_stepsBetween_25 rfl hl (by decide) rfl (fun ls hl => ?_)
  refine lv_iload_n hx hb dX9_stepsBetween_26 rfl (lv_at hl 1 rfl) ?_
  refine lv_iload_n hx hb dX9_stepsBetween_27 rfl (lv_at hl 0 rfl) ?_
  obtain ⟨v28, hcl, hF⟩ := ob hF
  refine go_SI (r_S (rest := []) (As := [.int v9, .int v22]) C0 cb_X9_393 (tJ9_max_7cf53 l D cy ad hcl) (pre_S C0) hl dX9_stepsBetween_28 rfl (Nat.le_of_ble_eq_true rfl) ⟨rfl, rfl⟩ ⟨Nat.le_of_ble_eq_true rfl, Nat.le_of_ble_eq_true rfl⟩ ⟨Nat.le_of_ble_eq_true rfl, Nat.le_of_ble_eq_true rfl⟩ rfl) ?_
  obtain rfl := (Option.some.inj hF)
  exact rt_SI C0 hr dX9_stepsBetween_31
set_option maxHeartbeats 4000000 in
set_option maxRecDepth 100000 in
theorem tX9_stepsBetween (l : Launch) (D : va_G) (cy : Nat → ClassId) (ad : Nat → Nat) {a0 : Int32} {a1 : Int32} {r : Int32} (h : fX9_stepsBetween a0 a1 = some r) : Met l yX9_stepsBetween [Cond.code yX9_stepsBetween cX9_stepsBetween 4 (some .int)] rmX9_stepsBetween (PcS D cy [.int a0, .int a1]) (QcS (some (.int r))) 0 0 (fun _ => False) := by
  refine met_S (by decide +kernel) cw_X9_stepsBetween (Nat.le_of_ble_eq_true rfl) ?_
  intro p e s m args below meth c ls C0 hr hl
  have hl : lv_has ls 4 [(0, .int a0), (1, .int a1)] := hl
  exact wX9_stepsBetween_0 ad (fun _ => False) C0 hr h hl
set_option maxHeartbeats 4000000 in
set_option maxRecDepth 100000 in
theorem wX0_rivalsOf_0 {p : Program} {l : Launch} {e : Env} {s : State} {m : MethodId} {args : Array Value} {below : List Frame} {meth : Method} {c : Code} {D : va_G} {cy : Nat → ClassId} (ad : Nat → Nat) (A : Nat → Prop) {S : MS} {r : Int32} {out : ((Nat × Nat × Int32 × Int32 × Int32) ⊕ Int32)} {ls : Array Slot} {x0 : Nat} {x1 : Nat} {x2 : Int32} (C0 : CX p s m args meth c RX0 cX0_rivalsOf 6 D cy) (M : MW D cy ad A S s.heap) (hr : meth.sig.returnType = some .int) (hF : bX0_rivalsOf_0 S x0 x1 x2 = some out) (hl : lv_has ls 6 [(0, .ref (ad x0)), (1, .ref (ad x1)), (2, .int x2)]) (Kr : ∀ r9, out = .inr r9 → r9 = r) (Kh0 : ∀ (y0 : Nat) (y1 : Nat) (y2 : Int32) (y3 : Int32) (y4 : Int32), out = .inl (y0, y1, y2, y3, y4) → ∀ (ls1 : Array Slot), lv_has ls1 6 [(0, .ref (ad y0)), (1, .ref (ad y1)), (2, .int y2), (3, .int y3), (4, .int y4)] → W p l e rmX0_rivalsOf s m args below meth c s.heap [] 0 0 (MQ below (QcS (some (.int r))) args s 0 0 (fun _ => False)) (F0 m 18 ls1 [])) : W p l e rmX0_rivalsOf s m args below meth c s.heap [] 0 0 (MQ below (QcS (some (.int r))) args s 0 0 (fun _ => False)) (F0 m 0 ls []) := by
  unfold bX0_rivalsOf_0 at hF
  obtain ⟨hx, hb, -, hown, -, hts, -⟩ := id C0
  refine lv_iconst (v := (0 : Int32)) hx hb dX0_rivalsOf_0 (by decide) ?_
  refine lv_istore_n (lv' := [(3, .int (0 : Int32)), (0, .ref (ad x0)), (1, .ref (ad x1)), (2, .int x2)]) hx hb dX0_rivalsOf_1 rfl hl (by decide) rfl (fun ls hl => ?_)
  refine lv_aload_n hx hb dX0_rivalsOf_2 rfl (lv_at hl 2 rfl) ?_
  obtain ⟨v3, hv, hF⟩ := ob hF
  refine k_getI C0 M hv fl_X0_80 dX0_rivalsOf_3 ?_
  refine lv_iload_n hx hb dX0_rivalsOf_6 rfl (lv_at hl 3 rfl) ?_
  obtain ⟨v7, hcl, hF⟩ := ob hF
  refine go_SI (r_SN (rest := []) (As := [.int v3, .int x2]) C0 cb_X0_87 (tX9_isIn l D cy ad hcl) (pre_S C0) hl dX0_rivalsOf_7 rfl (Nat.le_of_ble_eq_true rfl) ⟨rfl, rfl⟩ ⟨Nat.le_of_ble_eq_true rfl, Nat.le_of_ble_eq_true rfl⟩ ⟨Nat.le_of_ble_eq_true rfl, Nat.le_of_ble_eq_true rfl⟩ rfl) ?_
  refine lv_if_ne (tgt := 15) hx hb dX0_rivalsOf_10 (by decide) (fun hc => ?_) (fun hc => ?_)
  · have hF := oi_f hc hF
    refine lv_iconst (v := (0 : Int32)) hx hb dX0_rivalsOf_15 (by decide) ?_
    refine lv_istore (lv' := [(4, .int (0 : Int32)), (3, .int (0 : Int32)), (0, .ref (ad x0)), (1, .ref (ad x1)), (2, .int x2)]) hx hb dX0_rivalsOf_16 hl (by decide) rfl (fun ls hl => ?_)
    exact Kh0 _ _ _ _ _ (Option.some.inj hF).symm _ (lv_sub hl [2, 3, 4, 1, 0] rfl)
  · have hF := oi_t hc hF
    refine lv_iload_n hx hb dX0_rivalsOf_13 rfl (lv_at hl 0 rfl) ?_
    obtain rfl := (Kr _ (Option.some.inj hF).symm)
    exact rt_SI C0 hr dX0_rivalsOf_14
set_option maxHeartbeats 4000000 in
set_option maxRecDepth 100000 in
theorem wX0_rivalsOf_100 {p : Program} {l : Launch} {e : Env} {s : State} {m : MethodId} {args : Array Value} {below : List Frame} {meth : Method} {c : Code} {D : va_G} {cy : Nat → ClassId} (ad : Nat → Nat) (A : Nat → Prop) {S : MS} {r : Int32} {out : ((Nat × Nat × Int32 × Int32 × Int32) ⊕ Int32)} {ls : Array Slot} {x0 : Nat} {x1 : Nat} {x2 : Int32} {x3 : Int32} {x4 : Int32} (C0 : CX p s m args meth c RX0 cX0_rivalsOf 6 D cy) (M : MW D cy ad A S s.heap) (hr : meth.sig.returnType = some .int) (hF : bX0_rivalsOf_100 S x0 x1 x2 x3 x4 = some out) (hl : lv_has ls 6 [(0, .ref (ad x0)), (1, .ref (ad x1)), (2, .int x2), (3, .int x3), (4, .int x4)]) (Kr : ∀ r9, out = .inr r9 → r9 = r) (Kh0 : ∀ (y0 : Nat) (y1 : Nat) (y2 : Int32) (y3 : Int32) (y4 : Int32), out = .inl (y0, y1, y2, y3, y4) → ∀ (ls1 : Array Slot), lv_has ls1 6 [(0, .ref (ad y0)), (1, .ref (ad y1)), (2, .int y2), (3, .int y3), (4, .int y4)] → W p l e rmX0_rivalsOf s m args below meth c s.heap [] 0 0 (MQ below (QcS (some (.int r))) args s 0 0 (fun _ => False)) (F0 m 18 ls1 [])) : W p l e rmX0_rivalsOf s m args below meth c s.heap [] 0 0 (MQ below (QcS (some (.int r))) args s 0 0 (fun _ => False)) (F0 m 100 ls []) := by
  unfold bX0_rivalsOf_100 at hF
  obtain ⟨hx, hb, -, hown, -, hts, -⟩ := id C0
  obtain ⟨v100, hv, hF⟩ := ob hF
  refine lv_iinc (v := v100) (lv' := [(4, .int v100), (0, .ref (ad x0)), (1, .ref (ad x1)), (2, .int x2), (3, .int x3)]) hx hb dX0_rivalsOf_100 hl (k := 4) rfl (by rw [← vtI hv]; rfl) (by decide) rfl (fun ls hl => ?_)
  refine lv_goto (tgt := 18) hx hb dX0_rivalsOf_103 (by decide) ?_
  exact Kh0 _ _ _ _ _ (Option.some.inj hF).symm _ (lv_sub hl [1, 2, 3, 4, 0] rfl)
set_option maxHeartbeats 4000000 in
set_option maxRecDepth 100000 in
theorem wX0_rivalsOf_18 {p : Program} {l : Launch} {e : Env} {s : State} {m : MethodId} {args : Array Value} {below : List Frame} {meth : Method} {c : Code} {D : va_G} {cy : Nat → ClassId} (ad : Nat → Nat) (A : Nat → Prop) {S : MS} {r : Int32} {out : ((Nat × Nat × Int32 × Int32 × Int32) ⊕ Int32)} {ls : Array Slot} {x0 : Nat} {x1 : Nat} {x2 : Int32} {x3 : Int32} {x4 : Int32} (C0 : CX p s m args meth c RX0 cX0_rivalsOf 6 D cy) (M : MW D cy ad A S s.heap) (hr : meth.sig.returnType = some .int) (hF : bX0_rivalsOf_18 S x0 x1 x2 x3 x4 = some out) (hl : lv_has ls 6 [(0, .ref (ad x0)), (1, .ref (ad x1)), (2, .int x2), (3, .int x3), (4, .int x4)]) (Kr : ∀ r9, out = .inr r9 → r9 = r) (Kh0 : ∀ (y0 : Nat) (y1 : Nat) (y2 : Int32) (y3 : Int32) (y4 : Int32), out = .inl (y0, y1, y2, y3, y4) → ∀ (ls1 : Array Slot), lv_has ls1 6 [(0, .ref (ad y0)), (1, .ref (ad y1)), (2, .int y2), (3, .int y3), (4, .int y4)] → W p l e rmX0_rivalsOf s m args below meth c s.heap [] 0 0 (MQ below (QcS (some (.int r))) args s 0 0 (fun _ => False)) (F0 m 18 ls1 [])) : W p l e rmX0_rivalsOf s m args below meth c s.heap [] 0 0 (MQ below (QcS (some (.int r))) args s 0 0 (fun _ => False)) (F0 m 18 ls []) := by
  unfold bX0_rivalsOf_18 at hF
  obtain ⟨hx, hb, -, hown, -, hts, -⟩ := id C0
  refine lv_iload hx hb dX0_rivalsOf_18 (lv_at hl 4 rfl) ?_
  refine lv_aload_n hx hb dX0_rivalsOf_20 rfl (lv_at hl 1 rfl) ?_
  obtain ⟨v21, hv, hF⟩ := ob hF
  refine k_getP C0 M hv fl_X0_44 dX0_rivalsOf_21 ?_
  obtain ⟨_, hrec, hF⟩ := ob hF
  obtain ⟨v24, hcl, hF⟩ := ob hF
  refine go_SI (r_V (rest := [.int x4]) (As := []) C0 cb_X0_50 M hrec (tJx4a65c_size_8abf5 l D cy ad A hcl) (pre_R C0 M) hl dX0_rivalsOf_24 rfl (Nat.le_of_ble_eq_true rfl) ⟨rfl, rfl⟩ ⟨Nat.le_of_ble_eq_true rfl, Nat.le_of_ble_eq_true rfl⟩ ⟨Nat.le_of_ble_eq_true rfl, Nat.le_of_ble_eq_true rfl⟩ rfl) ?_
  refine lv_icmp_ge (tgt := 106) hx hb dX0_rivalsOf_27 (by decide) (fun hc => ?_) (fun hc => ?_)
  · have hF := oi_t hc hF
    refine lv_iload_n hx hb dX0_rivalsOf_106 rfl (lv_at hl 3 rfl) ?_
    obtain rfl := (Kr _ (Option.some.inj hF).symm)
    exact rt_SI C0 hr dX0_rivalsOf_107
  · have hF := oi_f hc hF
    refine lv_iload hx hb dX0_rivalsOf_30 (lv_at hl 4 rfl) ?_
    refine lv_iload_n hx hb dX0_rivalsOf_32 rfl (lv_at hl 2 rfl) ?_
    refine lv_icmp_eq (tgt := 100) hx hb dX0_rivalsOf_33 (by decide) (fun hc => ?_) (fun hc => ?_)
    · have hF := oi_t hc hF
      exact wX0_rivalsOf_100 ad A C0 M hr hF (lv_sub hl [0, 1, 2, 3, 4] rfl) Kr Kh0
    · have hF := oi_f hc hF
      refine lv_aload_n hx hb dX0_rivalsOf_36 rfl (lv_at hl 1 rfl) ?_
      obtain ⟨v37, hv, hF⟩ := ob hF
      refine k_getI C0 M hv fl_X0_80 dX0_rivalsOf_37 ?_
      refine lv_iload hx hb dX0_rivalsOf_40 (lv_at hl 4 rfl) ?_
      obtain ⟨v42, hcl, hF⟩ := ob hF
      refine go_SI (r_SN (rest := []) (As := [.int v37, .int x4]) C0 cb_X0_87 (tX9_isIn l D cy ad hcl) (pre_S C0) hl dX0_rivalsOf_42 rfl (Nat.le_of_ble_eq_true rfl) ⟨rfl, rfl⟩ ⟨Nat.le_of_ble_eq_true rfl, Nat.le_of_ble_eq_true rfl⟩ ⟨Nat.le_of_ble_eq_true rfl, Nat.le_of_ble_eq_true rfl⟩ rfl) ?_
      refine lv_if_eq (tgt := 100) hx hb dX0_rivalsOf_45 (by decide) (fun hc => ?_) (fun hc => ?_)
      · have hF := oi_t hc hF
        exact wX0_rivalsOf_100 ad A C0 M hr hF (lv_sub hl [0, 1, 2, 3, 4] rfl) Kr Kh0
      · have hF := oi_f hc hF
        refine lv_aload_n hx hb dX0_rivalsOf_48 rfl (lv_at hl 1 rfl) ?_
        obtain ⟨v49, hv, hF⟩ := ob hF
        refine k_getP C0 M hv fl_X0_91 dX0_rivalsOf_49 ?_
        refine lv_iload_n hx hb dX0_rivalsOf_52 rfl (lv_at hl 2 rfl) ?_
        obtain ⟨v53, hv, hF⟩ := ob hF
        refine k_ld C0 M hv dX0_rivalsOf_53 ?_
        refine lv_aload_n hx hb dX0_rivalsOf_54 rfl (lv_at hl 1 rfl) ?_
        obtain ⟨v55, hv, hF⟩ := ob hF
        refine k_getP C0 M hv fl_X0_91 dX0_rivalsOf_55 ?_
        refine lv_iload hx hb dX0_rivalsOf_58 (lv_at hl 4 rfl) ?_
        obtain ⟨v60, hv, hF⟩ := ob hF
        refine k_ld C0 M hv dX0_rivalsOf_60 ?_
        obtain ⟨v61, hcl, hF⟩ := ob hF
        refine go_SI (r_SN (rest := []) (As := [.int v53, .int v60]) C0 cb_X0_94 (tX9_stepsBetween l D cy ad hcl) (pre_S C0) hl dX0_rivalsOf_61 rfl (Nat.le_of_ble_eq_true rfl) ⟨rfl, rfl⟩ ⟨Nat.le_of_ble_eq_true rfl, Nat.le_of_ble_eq_true rfl⟩ ⟨Nat.le_of_ble_eq_true rfl, Nat.le_of_ble_eq_true rfl⟩ rfl) ?_
        refine lv_istore (lv' := [(5, .int v61), (0, .ref (ad x0)), (1, .ref (ad x1)), (2, .int x2), (3, .int x3), (4, .int x4)]) hx hb dX0_rivalsOf_64 hl (by decide) rfl (fun ls hl => ?_)
        refine lv_aload_n hx hb dX0_rivalsOf_66 rfl (lv_at hl 1 rfl) ?_
        obtain ⟨v67, hv, hF⟩ := ob hF
        refine k_getP C0 M hv fl_X0_15 dX0_rivalsOf_67 ?_
        refine lv_iload_n hx hb dX0_rivalsOf_70 rfl (lv_at hl 3 rfl) ?_
        obtain ⟨v71, hv, hF⟩ := ob hF
        refine k_ld C0 M hv dX0_rivalsOf_71 ?_
        refine lv_aload_n hx hb dX0_rivalsOf_72 rfl (lv_at hl 1 rfl) ?_
        obtain ⟨v73, hv, hF⟩ := ob hF
        refine k_getP C0 M hv fl_X0_15 dX0_rivalsOf_73 ?_
        refine lv_iload hx hb dX0_rivalsOf_76 (lv_at hl 5 rfl) ?_
        obtain ⟨v78, hv, hF⟩ := ob hF
        refine k_ld C0 M hv dX0_rivalsOf_78 ?_
        refine lv_isub hx hb dX0_rivalsOf_79 ?_
        obtain ⟨v80, hcl, hF⟩ := ob hF
        refine go_SI (r_S (rest := []) (As := [.int (v71 - v78)]) C0 cb_X0_97 (tJ9_abs_0f7a4 l D cy ad hcl) (pre_S C0) hl dX0_rivalsOf_80 rfl (Nat.le_of_ble_eq_true rfl) ⟨rfl, rfl⟩ ⟨Nat.le_of_ble_eq_true rfl, Nat.le_of_ble_eq_true rfl⟩ ⟨Nat.le_of_ble_eq_true rfl, Nat.le_of_ble_eq_true rfl⟩ rfl) ?_
        refine lv_aload_n hx hb dX0_rivalsOf_83 rfl (lv_at hl 1 rfl) ?_
        obtain ⟨v84, hv, hF⟩ := ob hF
        refine k_getI C0 M hv fl_X0_9 dX0_rivalsOf_84 ?_
        refine lv_iload hx hb dX0_rivalsOf_87 (lv_at hl 0 rfl) ?_
        refine lv_imul hx hb dX0_rivalsOf_89 ?_
        refine lv_icmp_le (tgt := 100) hx hb dX0_rivalsOf_90 (by decide) (fun hc => ?_) (fun hc => ?_)
        · have hF := oi_t hc hF
          exact wX0_rivalsOf_100 ad A C0 M hr hF (lv_sub hl [1, 2, 3, 4, 5] rfl) Kr Kh0
        · have hF := oi_f hc hF
          refine lv_iload_n hx hb dX0_rivalsOf_93 rfl (lv_at hl 4 rfl) ?_
          refine lv_iconst (v := (1 : Int32)) hx hb dX0_rivalsOf_94 (by decide) ?_
          refine lv_iload hx hb dX0_rivalsOf_95 (lv_at hl 5 rfl) ?_
          refine lv_ishl hx hb dX0_rivalsOf_97 ?_
          refine lv_ior hx hb dX0_rivalsOf_98 ?_
          obtain ⟨v99, hv, hF⟩ := ob hF
          have hv := vtI hv
          refine vtopi hv ?_
          refine lv_istore_n (lv' := [(3, .int v99), (5, .int v61), (0, .ref (ad x0)), (1, .ref (ad x1)), (2, .int x2), (4, .int x4)]) hx hb dX0_rivalsOf_99 rfl hl (by decide) rfl (fun ls hl => ?_)
          exact wX0_rivalsOf_100 ad A C0 M hr hF (lv_sub hl [2, 3, 4, 0, 5] rfl) Kr Kh0
set_option maxHeartbeats 4000000 in
set_option maxRecDepth 100000 in
theorem tX0_rivalsOf (l : Launch) (D : va_G) (cy : Nat → ClassId) (ad : Nat → Nat) (A : Nat → Prop) {S : MS} {a0 : Nat} {a1 : Nat} {a2 : Int32} {r : Int32} (h : fX0_rivalsOf S a0 a1 a2 = some r) : Met l yX0_rivalsOf [Cond.code yX0_rivalsOf cX0_rivalsOf 6 (some .int)] rmX0_rivalsOf (PcR D cy ad A S [.ref (ad a0), .ref (ad a1), .int a2]) (QcS (some (.int r))) 0 0 (fun _ => False) := by
  refine met_R (by decide +kernel) cw_X0_rivalsOf (Nat.le_of_ble_eq_true rfl) ?_
  intro p e s m args below meth c ls C0 M hr hl
  have hl : lv_has ls 6 [(0, .ref (ad a0)), (1, .ref (ad a1)), (2, .int a2)] := hl
  have key := lim_walk (step := sX0_rivalsOf S) (fun (q : (Nat × Nat × Int32 × Int32 × Int32)) (r9 : Int32) => ∀ (r : Int32), r9 = r → ((∀ (y0 : Nat) (y1 : Nat) (y2 : Int32) (y3 : Int32) (y4 : Int32), q = (y0, y1, y2, y3, y4) → ∀ (ls1 : Array Slot), lv_has ls1 6 [(0, .ref (ad y0)), (1, .ref (ad y1)), (2, .int y2), (3, .int y3), (4, .int y4)] → W p l e rmX0_rivalsOf s m args below meth c s.heap [] 0 0 (MQ below (QcS (some (.int r))) args s 0 0 (fun _ => False)) (F0 m 18 ls1 [])))) ?_
  · unfold fX0_rivalsOf at h
    cases hs0 : bX0_rivalsOf_0 S a0 a1 a2 with
    | none => rw [hs0] at h; cases h
    | some out =>
      rw [hs0] at h
      refine wX0_rivalsOf_0 ad A C0 M hr hs0 hl (fun r9 hr9 => ?_) ?_
      · subst hr9; exact Option.some.inj h
      · intro y0 y1 y2 y3 y4 hq; subst hq; exact (key _ _ h _ rfl) _ _ _ _ _ rfl
  · intro q r9 out hst hre hin9
    intro r er; subst er
    refine ?_
    · intro y0 y1 y2 y3 y4 hq ls1 hl
      subst hq
      exact wX0_rivalsOf_18 ad A C0 M hr hst hl hre (fun k0 k1 k2 k3 k4 hk => (hin9 _ hk _ rfl) _ _ _ _ _ rfl)
set_option maxHeartbeats 4000000 in
set_option maxRecDepth 100000 in
theorem wX9_farBetween_0 {p : Program} {l : Launch} {e : Env} {s : State} {m : MethodId} {args : Array Value} {below : List Frame} {meth : Method} {c : Code} {D : va_G} {cy : Nat → ClassId} (ad : Nat → Nat) (A : Nat → Prop) {r : Int32} {ls : Array Slot} {x0 : Int32} {x1 : Int32} (C0 : CX p s m args meth c RX9 cX9_farBetween 4 D cy) (hr : meth.sig.returnType = some .int) (hF : bX9_farBetween_0 x0 x1 = some r) (hl : lv_has ls 4 [(0, .int x0), (1, .int x1)]) : W p l e rmX9_farBetween s m args below meth c s.heap [] 0 0 (MQ below (QcS (some (.int r))) args s 0 0 (fun _ => False)) (F0 m 0 ls []) := by
  unfold bX9_farBetween_0 at hF
  obtain ⟨hx, hb, -, hown, -, hts, -⟩ := id C0
  refine lv_iload_n hx hb dX9_farBetween_0 rfl (lv_at hl 0 rfl) ?_
  refine lv_bipush (v := (12 : Int32)) hx hb dX9_farBetween_1 (by decide) ?_
  refine lv_irem hx hb dX9_farBetween_3 (by decide) ?_
  refine lv_iload_n hx hb dX9_farBetween_4 rfl (lv_at hl 1 rfl) ?_
  refine lv_bipush (v := (12 : Int32)) hx hb dX9_farBetween_5 (by decide) ?_
  refine lv_irem hx hb dX9_farBetween_7 (by decide) ?_
  refine lv_isub hx hb dX9_farBetween_8 ?_
  obtain ⟨v9, hv, hF⟩ := ob hF
  have hv := vtI hv
  refine vtopi hv ?_
  refine lv_istore_n (lv' := [(2, .int v9), (0, .int x0), (1, .int x1)]) hx hb dX9_farBetween_9 rfl hl (by decide) rfl (fun ls hl => ?_)
  refine lv_iload_n hx hb dX9_farBetween_10 rfl (lv_at hl 1 rfl) ?_
  refine lv_bipush (v := (12 : Int32)) hx hb dX9_farBetween_11 (by decide) ?_
  refine lv_idiv hx hb dX9_farBetween_13 (by decide) ?_
  refine lv_iload_n hx hb dX9_farBetween_14 rfl (lv_at hl 2 rfl) ?_
  refine lv_bipush (v := (12 : Int32)) hx hb dX9_farBetween_15 (by decide) ?_
  refine lv_idiv hx hb dX9_farBetween_17 (by decide) ?_
  refine lv_isub hx hb dX9_farBetween_18 ?_
  obtain ⟨v19, hv, hF⟩ := ob hF
  have hv := vtI hv
  refine vtopi hv ?_
  refine lv_istore_n (lv' := [(3, .int v19), (2, .int v9), (0, .int x0), (1, .int x1)]) hx hb dX9_farBetween_19 rfl hl (by decide) rfl (fun ls hl => ?_)
  refine lv_iload_n hx hb dX9_farBetween_20 rfl (lv_at hl 1 rfl) ?_
  refine lv_iload_n hx hb dX9_farBetween_21 rfl (lv_at hl 1 rfl) ?_
  refine lv_imul hx hb dX9_farBetween_22 ?_
  refine lv_iload_n hx hb dX9_farBetween_23 rfl (lv_at hl 0 rfl) ?_
  refine lv_iload_n hx hb dX9_farBetween_24 rfl (lv_at hl 0 rfl) ?_
  refine lv_imul hx hb dX9_farBetween_25 ?_
  refine lv_iadd hx hb dX9_farBetween_26 ?_
  obtain rfl := (Option.some.inj hF)
  exact rt_SI C0 hr dX9_farBetween_27
set_option maxHeartbeats 4000000 in
set_option maxRecDepth 100000 in
theorem tX9_farBetween (l : Launch) (D : va_G) (cy : Nat → ClassId) (ad : Nat → Nat) {a0 : Int32} {a1 : Int32} {r : Int32} (h : fX9_farBetween a0 a1 = some r) : Met l yX9_farBetween [Cond.code yX9_farBetween cX9_farBetween 4 (some .int)] rmX9_farBetween (PcS D cy [.int a0, .int a1]) (QcS (some (.int r))) 0 0 (fun _ => False) := by
  refine met_S (by decide +kernel) cw_X9_farBetween (Nat.le_of_ble_eq_true rfl) ?_
  intro p e s m args below meth c ls C0 hr hl
  have hl : lv_has ls 4 [(0, .int a0), (1, .int a1)] := hl
  exact wX9_farBetween_0 ad (fun _ => False) C0 hr h hl
set_option maxHeartbeats 4000000 in
set_option maxRecDepth 100000 in
theorem wX1_nearestOf_0 {p : Program} {l : Launch} {e : Env} {s : State} {m : MethodId} {args : Array Value} {below : List Frame} {meth : Method} {c : Code} {D : va_G} {cy : Nat → ClassId} (ad : Nat → Nat) (A : Nat → Prop) {S : MS} {r : Int32} {out : ((Nat × Int32 × Int32 × Int32 × Int32 × Int32) ⊕ Int32)} {ls : Array Slot} {x0 : Nat} {x1 : Int32} {x2 : Int32} (C0 : CX p s m args meth c RX1 cX1_nearestOf 7 D cy) (M : MW D cy ad A S s.heap) (hr : meth.sig.returnType = some .int) (hF : bX1_nearestOf_0 S x0 x1 x2 = some out) (hl : lv_has ls 7 [(0, .ref (ad x0)), (1, .int x1), (2, .int x2)]) (Kr : ∀ r9, out = .inr r9 → r9 = r) (Kh0 : ∀ (y0 : Nat) (y1 : Int32) (y2 : Int32) (y3 : Int32) (y4 : Int32) (y5 : Int32), out = .inl (y0, y1, y2, y3, y4, y5) → ∀ (ls1 : Array Slot), lv_has ls1 7 [(0, .ref (ad y0)), (1, .int y1), (2, .int y2), (3, .int y3), (4, .int y4), (5, .int y5)] → W p l e rmX1_nearestOf s m args below meth c s.heap [] 0 0 (MQ below (QcS (some (.int r))) args s 0 0 (fun _ => False)) (F0 m 9 ls1 [])) : W p l e rmX1_nearestOf s m args below meth c s.heap [] 0 0 (MQ below (QcS (some (.int r))) args s 0 0 (fun _ => False)) (F0 m 0 ls []) := by
  unfold bX1_nearestOf_0 at hF
  obtain ⟨hx, hb, -, hown, -, hts, -⟩ := id C0
  refine lv_bipush (v := (-9 : Int32)) hx hb dX1_nearestOf_0 (by decide) ?_
  refine lv_istore_n (lv' := [(3, .int (-9 : Int32)), (0, .ref (ad x0)), (1, .int x1), (2, .int x2)]) hx hb dX1_nearestOf_2 rfl hl (by decide) rfl (fun ls hl => ?_)
  refine lv_iconst (v := (0 : Int32)) hx hb dX1_nearestOf_3 (by decide) ?_
  refine lv_istore (lv' := [(4, .int (0 : Int32)), (3, .int (-9 : Int32)), (0, .ref (ad x0)), (1, .int x1), (2, .int x2)]) hx hb dX1_nearestOf_4 hl (by decide) rfl (fun ls hl => ?_)
  refine lv_iconst (v := (0 : Int32)) hx hb dX1_nearestOf_6 (by decide) ?_
  refine lv_istore (lv' := [(5, .int (0 : Int32)), (4, .int (0 : Int32)), (3, .int (-9 : Int32)), (0, .ref (ad x0)), (1, .int x1), (2, .int x2)]) hx hb dX1_nearestOf_7 hl (by decide) rfl (fun ls hl => ?_)
  exact Kh0 _ _ _ _ _ _ (Option.some.inj hF).symm _ (lv_sub hl [3, 4, 5, 2, 1, 0] rfl)
set_option maxHeartbeats 4000000 in
set_option maxRecDepth 100000 in
theorem wX1_nearestOf_63 {p : Program} {l : Launch} {e : Env} {s : State} {m : MethodId} {args : Array Value} {below : List Frame} {meth : Method} {c : Code} {D : va_G} {cy : Nat → ClassId} (ad : Nat → Nat) (A : Nat → Prop) {S : MS} {r : Int32} {out : ((Nat × Int32 × Int32 × Int32 × Int32 × Int32) ⊕ Int32)} {ls : Array Slot} {x0 : Nat} {x1 : Int32} {x2 : Int32} {x3 : Int32} {x4 : Int32} {x5 : Int32} (C0 : CX p s m args meth c RX1 cX1_nearestOf 7 D cy) (M : MW D cy ad A S s.heap) (hr : meth.sig.returnType = some .int) (hF : bX1_nearestOf_63 S x0 x1 x2 x3 x4 x5 = some out) (hl : lv_has ls 7 [(0, .ref (ad x0)), (1, .int x1), (2, .int x2), (3, .int x3), (4, .int x4), (5, .int x5)]) (Kr : ∀ r9, out = .inr r9 → r9 = r) (Kh0 : ∀ (y0 : Nat) (y1 : Int32) (y2 : Int32) (y3 : Int32) (y4 : Int32) (y5 : Int32), out = .inl (y0, y1, y2, y3, y4, y5) → ∀ (ls1 : Array Slot), lv_has ls1 7 [(0, .ref (ad y0)), (1, .int y1), (2, .int y2), (3, .int y3), (4, .int y4), (5, .int y5)] → W p l e rmX1_nearestOf s m args below meth c s.heap [] 0 0 (MQ below (QcS (some (.int r))) args s 0 0 (fun _ => False)) (F0 m 9 ls1 [])) : W p l e rmX1_nearestOf s m args below meth c s.heap [] 0 0 (MQ below (QcS (some (.int r))) args s 0 0 (fun _ => False)) (F0 m 63 ls []) := by
  unfold bX1_nearestOf_63 at hF
  obtain ⟨hx, hb, -, hown, -, hts, -⟩ := id C0
  obtain ⟨v63, hv, hF⟩ := ob hF
  refine lv_iinc (v := v63) (lv' := [(5, .int v63), (0, .ref (ad x0)), (1, .int x1), (2, .int x2), (3, .int x3), (4, .int x4)]) hx hb dX1_nearestOf_63 hl (k := 5) rfl (by rw [← vtI hv]; rfl) (by decide) rfl (fun ls hl => ?_)
  refine lv_goto (tgt := 9) hx hb dX1_nearestOf_66 (by decide) ?_
  exact Kh0 _ _ _ _ _ _ (Option.some.inj hF).symm _ (lv_sub hl [1, 2, 3, 4, 5, 0] rfl)
set_option maxHeartbeats 4000000 in
set_option maxRecDepth 100000 in
theorem wX1_nearestOf_56 {p : Program} {l : Launch} {e : Env} {s : State} {m : MethodId} {args : Array Value} {below : List Frame} {meth : Method} {c : Code} {D : va_G} {cy : Nat → ClassId} (ad : Nat → Nat) (A : Nat → Prop) {S : MS} {r : Int32} {out : ((Nat × Int32 × Int32 × Int32 × Int32 × Int32) ⊕ Int32)} {ls : Array Slot} {x0 : Nat} {x1 : Int32} {x2 : Int32} {x5 : Int32} {x6 : Int32} (C0 : CX p s m args meth c RX1 cX1_nearestOf 7 D cy) (M : MW D cy ad A S s.heap) (hr : meth.sig.returnType = some .int) (hF : bX1_nearestOf_56 S x0 x1 x2 x5 x6 = some out) (hl : lv_has ls 7 [(0, .ref (ad x0)), (1, .int x1), (2, .int x2), (5, .int x5), (6, .int x6)]) (Kr : ∀ r9, out = .inr r9 → r9 = r) (Kh0 : ∀ (y0 : Nat) (y1 : Int32) (y2 : Int32) (y3 : Int32) (y4 : Int32) (y5 : Int32), out = .inl (y0, y1, y2, y3, y4, y5) → ∀ (ls1 : Array Slot), lv_has ls1 7 [(0, .ref (ad y0)), (1, .int y1), (2, .int y2), (3, .int y3), (4, .int y4), (5, .int y5)] → W p l e rmX1_nearestOf s m args below meth c s.heap [] 0 0 (MQ below (QcS (some (.int r))) args s 0 0 (fun _ => False)) (F0 m 9 ls1 [])) : W p l e rmX1_nearestOf s m args below meth c s.heap [] 0 0 (MQ below (QcS (some (.int r))) args s 0 0 (fun _ => False)) (F0 m 56 ls []) := by
  unfold bX1_nearestOf_56 at hF
  obtain ⟨hx, hb, -, hown, -, hts, -⟩ := id C0
  refine lv_iload hx hb dX1_nearestOf_56 (lv_at hl 3 rfl) ?_
  refine lv_istore_n (lv' := [(3, .int x5), (0, .ref (ad x0)), (1, .int x1), (2, .int x2), (5, .int x5), (6, .int x6)]) hx hb dX1_nearestOf_58 rfl hl (by decide) rfl (fun ls hl => ?_)
  refine lv_iload hx hb dX1_nearestOf_59 (lv_at hl 5 rfl) ?_
  refine lv_istore (lv' := [(4, .int x6), (3, .int x5), (0, .ref (ad x0)), (1, .int x1), (2, .int x2), (5, .int x5), (6, .int x6)]) hx hb dX1_nearestOf_61 hl (by decide) rfl (fun ls hl => ?_)
  exact wX1_nearestOf_63 ad A C0 M hr hF (lv_sub hl [2, 3, 4, 1, 0, 5] rfl) Kr Kh0
set_option maxHeartbeats 4000000 in
set_option maxRecDepth 100000 in
theorem wX1_nearestOf_9 {p : Program} {l : Launch} {e : Env} {s : State} {m : MethodId} {args : Array Value} {below : List Frame} {meth : Method} {c : Code} {D : va_G} {cy : Nat → ClassId} (ad : Nat → Nat) (A : Nat → Prop) {S : MS} {r : Int32} {out : ((Nat × Int32 × Int32 × Int32 × Int32 × Int32) ⊕ Int32)} {ls : Array Slot} {x0 : Nat} {x1 : Int32} {x2 : Int32} {x3 : Int32} {x4 : Int32} {x5 : Int32} (C0 : CX p s m args meth c RX1 cX1_nearestOf 7 D cy) (M : MW D cy ad A S s.heap) (hr : meth.sig.returnType = some .int) (hF : bX1_nearestOf_9 S x0 x1 x2 x3 x4 x5 = some out) (hl : lv_has ls 7 [(0, .ref (ad x0)), (1, .int x1), (2, .int x2), (3, .int x3), (4, .int x4), (5, .int x5)]) (Kr : ∀ r9, out = .inr r9 → r9 = r) (Kh0 : ∀ (y0 : Nat) (y1 : Int32) (y2 : Int32) (y3 : Int32) (y4 : Int32) (y5 : Int32), out = .inl (y0, y1, y2, y3, y4, y5) → ∀ (ls1 : Array Slot), lv_has ls1 7 [(0, .ref (ad y0)), (1, .int y1), (2, .int y2), (3, .int y3), (4, .int y4), (5, .int y5)] → W p l e rmX1_nearestOf s m args below meth c s.heap [] 0 0 (MQ below (QcS (some (.int r))) args s 0 0 (fun _ => False)) (F0 m 9 ls1 [])) : W p l e rmX1_nearestOf s m args below meth c s.heap [] 0 0 (MQ below (QcS (some (.int r))) args s 0 0 (fun _ => False)) (F0 m 9 ls []) := by
  unfold bX1_nearestOf_9 at hF
  obtain ⟨hx, hb, -, hown, -, hts, -⟩ := id C0
  refine lv_iload hx hb dX1_nearestOf_9 (lv_at hl 5 rfl) ?_
  refine lv_aload_n hx hb dX1_nearestOf_11 rfl (lv_at hl 0 rfl) ?_
  obtain ⟨v12, hv, hF⟩ := ob hF
  refine k_getP C0 M hv fl_X1_12 dX1_nearestOf_12 ?_
  obtain ⟨_, hrec, hF⟩ := ob hF
  obtain ⟨v15, hcl, hF⟩ := ob hF
  refine go_SI (r_V (rest := [.int x5]) (As := []) C0 cb_X1_44 M hrec (tJx4a65c_size_8abf5 l D cy ad A hcl) (pre_R C0 M) hl dX1_nearestOf_15 rfl (Nat.le_of_ble_eq_true rfl) ⟨rfl, rfl⟩ ⟨Nat.le_of_ble_eq_true rfl, Nat.le_of_ble_eq_true rfl⟩ ⟨Nat.le_of_ble_eq_true rfl, Nat.le_of_ble_eq_true rfl⟩ rfl) ?_
  refine lv_icmp_ge (tgt := 69) hx hb dX1_nearestOf_18 (by decide) (fun hc => ?_) (fun hc => ?_)
  · have hF := oi_t hc hF
    refine lv_iload_n hx hb dX1_nearestOf_69 rfl (lv_at hl 3 rfl) ?_
    obtain rfl := (Kr _ (Option.some.inj hF).symm)
    exact rt_SI C0 hr dX1_nearestOf_70
  · have hF := oi_f hc hF
    refine lv_iload_n hx hb dX1_nearestOf_21 rfl (lv_at hl 1 rfl) ?_
    refine lv_iload hx hb dX1_nearestOf_22 (lv_at hl 5 rfl) ?_
    obtain ⟨v24, hcl, hF⟩ := ob hF
    refine go_SI (r_SN (rest := []) (As := [.int x1, .int x5]) C0 cb_X1_80 (tX9_isIn l D cy ad hcl) (pre_S C0) hl dX1_nearestOf_24 rfl (Nat.le_of_ble_eq_true rfl) ⟨rfl, rfl⟩ ⟨Nat.le_of_ble_eq_true rfl, Nat.le_of_ble_eq_true rfl⟩ ⟨Nat.le_of_ble_eq_true rfl, Nat.le_of_ble_eq_true rfl⟩ rfl) ?_
    refine lv_if_eq (tgt := 63) hx hb dX1_nearestOf_27 (by decide) (fun hc => ?_) (fun hc => ?_)
    · have hF := oi_t hc hF
      exact wX1_nearestOf_63 ad A C0 M hr hF (lv_sub hl [0, 1, 2, 3, 4, 5] rfl) Kr Kh0
    · have hF := oi_f hc hF
      refine lv_aload_n hx hb dX1_nearestOf_30 rfl (lv_at hl 0 rfl) ?_
      obtain ⟨v31, hv, hF⟩ := ob hF
      refine k_getP C0 M hv fl_X1_28 dX1_nearestOf_31 ?_
      refine lv_iload hx hb dX1_nearestOf_34 (lv_at hl 5 rfl) ?_
      obtain ⟨v36, hv, hF⟩ := ob hF
      refine k_ld C0 M hv dX1_nearestOf_36 ?_
      refine lv_iload_n hx hb dX1_nearestOf_37 rfl (lv_at hl 2 rfl) ?_
      obtain ⟨v38, hcl, hF⟩ := ob hF
      refine go_SI (r_SN (rest := []) (As := [.int v36, .int x2]) C0 cb_X1_84 (tX9_farBetween l D cy ad hcl) (pre_S C0) hl dX1_nearestOf_38 rfl (Nat.le_of_ble_eq_true rfl) ⟨rfl, rfl⟩ ⟨Nat.le_of_ble_eq_true rfl, Nat.le_of_ble_eq_true rfl⟩ ⟨Nat.le_of_ble_eq_true rfl, Nat.le_of_ble_eq_true rfl⟩ rfl) ?_
      refine lv_istore (lv' := [(6, .int v38), (0, .ref (ad x0)), (1, .int x1), (2, .int x2), (3, .int x3), (4, .int x4), (5, .int x5)]) hx hb dX1_nearestOf_41 hl (by decide) rfl (fun ls hl => ?_)
      refine lv_iload_n hx hb dX1_nearestOf_43 rfl (lv_at hl 4 rfl) ?_
      refine lv_bipush (v := (-9 : Int32)) hx hb dX1_nearestOf_44 (by decide) ?_
      refine lv_icmp_eq (tgt := 56) hx hb dX1_nearestOf_46 (by decide) (fun hc => ?_) (fun hc => ?_)
      · have hF := oi_t hc hF
        exact wX1_nearestOf_56 ad A C0 M hr hF (lv_sub hl [1, 2, 3, 6, 0] rfl) Kr Kh0
      · have hF := oi_f hc hF
        refine lv_iload hx hb dX1_nearestOf_49 (lv_at hl 0 rfl) ?_
        refine lv_iload hx hb dX1_nearestOf_51 (lv_at hl 5 rfl) ?_
        refine lv_icmp_ge (tgt := 63) hx hb dX1_nearestOf_53 (by decide) (fun hc => ?_) (fun hc => ?_)
        · have hF := oi_t hc hF
          exact wX1_nearestOf_63 ad A C0 M hr hF (lv_sub hl [1, 2, 3, 4, 5, 6] rfl) Kr Kh0
        · have hF := oi_f hc hF
          exact wX1_nearestOf_56 ad A C0 M hr hF (lv_sub hl [1, 2, 3, 6, 0] rfl) Kr Kh0
set_option maxHeartbeats 4000000 in
set_option maxRecDepth 100000 in
theorem tX1_nearestOf (l : Launch) (D : va_G) (cy : Nat → ClassId) (ad : Nat → Nat) (A : Nat → Prop) {S : MS} {a0 : Nat} {a1 : Int32} {a2 : Int32} {r : Int32} (h : fX1_nearestOf S a0 a1 a2 = some r) : Met l yX1_nearestOf [Cond.code yX1_nearestOf cX1_nearestOf 7 (some .int)] rmX1_nearestOf (PcR D cy ad A S [.ref (ad a0), .int a1, .int a2]) (QcS (some (.int r))) 0 0 (fun _ => False) := by
  refine met_R (by decide +kernel) cw_X1_nearestOf (Nat.le_of_ble_eq_true rfl) ?_
  intro p e s m args below meth c ls C0 M hr hl
  have hl : lv_has ls 7 [(0, .ref (ad a0)), (1, .int a1), (2, .int a2)] := hl
  have key := lim_walk (step := sX1_nearestOf S) (fun (q : (Nat × Int32 × Int32 × Int32 × Int32 × Int32)) (r9 : Int32) => ∀ (r : Int32), r9 = r → ((∀ (y0 : Nat) (y1 : Int32) (y2 : Int32) (y3 : Int32) (y4 : Int32) (y5 : Int32), q = (y0, y1, y2, y3, y4, y5) → ∀ (ls1 : Array Slot), lv_has ls1 7 [(0, .ref (ad y0)), (1, .int y1), (2, .int y2), (3, .int y3), (4, .int y4), (5, .int y5)] → W p l e rmX1_nearestOf s m args below meth c s.heap [] 0 0 (MQ below (QcS (some (.int r))) args s 0 0 (fun _ => False)) (F0 m 9 ls1 [])))) ?_
  · unfold fX1_nearestOf at h
    cases hs0 : bX1_nearestOf_0 S a0 a1 a2 with
    | none => rw [hs0] at h; cases h
    | some out =>
      rw [hs0] at h
      refine wX1_nearestOf_0 ad A C0 M hr hs0 hl (fun r9 hr9 => ?_) ?_
      · subst hr9; exact Option.some.inj h
      · intro y0 y1 y2 y3 y4 y5 hq; subst hq; exact (key _ _ h _ rfl) _ _ _ _ _ _ rfl
  · intro q r9 out hst hre hin9
    intro r er; subst er
    refine ?_
    · intro y0 y1 y2 y3 y4 y5 hq ls1 hl
      subst hq
      exact wX1_nearestOf_9 ad A C0 M hr hst hl hre (fun k0 k1 k2 k3 k4 k5 hk => (hin9 _ hk _ rfl) _ _ _ _ _ _ rfl)
set_option maxHeartbeats 4000000 in
set_option maxRecDepth 100000 in
theorem wX1_guessFor_0 {p : Program} {l : Launch} {e : Env} {s : State} {m : MethodId} {args : Array Value} {below : List Frame} {meth : Method} {c : Code} {D : va_G} {cy : Nat → ClassId} (ad : Nat → Nat) (A : Nat → Prop) {S : MS} {r : Int32} {out : ((Nat × Nat × Int32 × Int32 × Int32 × Int32) ⊕ Int32)} {ls : Array Slot} {x0 : Nat} {x1 : Nat} (C0 : CX p s m args meth c RX1 cX1_guessFor 7 D cy) (M : MW D cy ad A S s.heap) (hr : meth.sig.returnType = some .int) (hF : bX1_guessFor_0 S x0 x1 = some out) (hl : lv_has ls 7 [(0, .ref (ad x0)), (1, .ref (ad x1))]) (Kr : ∀ r9, out = .inr r9 → r9 = r) (Kh0 : ∀ (y0 : Nat) (y1 : Nat) (y2 : Int32) (y3 : Int32) (y4 : Int32) (y5 : Int32), out = .inl (y0, y1, y2, y3, y4, y5) → ∀ (ls1 : Array Slot), lv_has ls1 7 [(0, .ref (ad y0)), (1, .ref (ad y1)), (2, .int y2), (3, .int y3), (4, .int y4), (5, .int y5)] → W p l e rmX1_guessFor s m args below meth c s.heap [] 0 0 (MQ below (QcS (some (.int r))) args s 0 0 (fun _ => False)) (F0 m 22 ls1 [])) : W p l e rmX1_guessFor s m args below meth c s.heap [] 0 0 (MQ below (QcS (some (.int r))) args s 0 0 (fun _ => False)) (F0 m 0 ls []) := by
  unfold bX1_guessFor_0 at hF
  obtain ⟨hx, hb, -, hown, -, hts, -⟩ := id C0
  refine lv_aload_n hx hb dX1_guessFor_0 rfl (lv_at hl 0 rfl) ?_
  obtain ⟨v1, hv, hF⟩ := ob hF
  refine k_getI C0 M hv fl_X1_41 dX1_guessFor_1 ?_
  refine lv_iconst (v := (1 : Int32)) hx hb dX1_guessFor_4 (by decide) ?_
  refine lv_aload_n hx hb dX1_guessFor_5 rfl (lv_at hl 1 rfl) ?_
  obtain ⟨v6, hv, hF⟩ := ob hF
  refine k_getI C0 M hv fl_X1_54 dX1_guessFor_6 ?_
  refine lv_ishl hx hb dX1_guessFor_9 ?_
  refine lv_iconst (v := (-1 : Int32)) hx hb dX1_guessFor_10 (by decide) ?_
  refine lv_ixor hx hb dX1_guessFor_11 ?_
  refine lv_iand hx hb dX1_guessFor_12 ?_
  obtain ⟨v13, hv, hF⟩ := ob hF
  have hv := vtI hv
  refine vtopi hv ?_
  refine lv_istore_n (lv' := [(2, .int v13), (0, .ref (ad x0)), (1, .ref (ad x1))]) hx hb dX1_guessFor_13 rfl hl (by decide) rfl (fun ls hl => ?_)
  refine lv_iconst (v := (0 : Int32)) hx hb dX1_guessFor_14 (by decide) ?_
  refine lv_istore_n (lv' := [(3, .int (0 : Int32)), (2, .int v13), (0, .ref (ad x0)), (1, .ref (ad x1))]) hx hb dX1_guessFor_15 rfl hl (by decide) rfl (fun ls hl => ?_)
  refine lv_iconst (v := (0 : Int32)) hx hb dX1_guessFor_16 (by decide) ?_
  refine lv_istore (lv' := [(4, .int (0 : Int32)), (3, .int (0 : Int32)), (2, .int v13), (0, .ref (ad x0)), (1, .ref (ad x1))]) hx hb dX1_guessFor_17 hl (by decide) rfl (fun ls hl => ?_)
  refine lv_iconst (v := (0 : Int32)) hx hb dX1_guessFor_19 (by decide) ?_
  refine lv_istore (lv' := [(5, .int (0 : Int32)), (4, .int (0 : Int32)), (3, .int (0 : Int32)), (2, .int v13), (0, .ref (ad x0)), (1, .ref (ad x1))]) hx hb dX1_guessFor_20 hl (by decide) rfl (fun ls hl => ?_)
  exact Kh0 _ _ _ _ _ _ (Option.some.inj hF).symm _ (lv_sub hl [4, 5, 3, 2, 1, 0] rfl)
set_option maxHeartbeats 4000000 in
set_option maxRecDepth 100000 in
theorem wX1_guessFor_99 {p : Program} {l : Launch} {e : Env} {s : State} {m : MethodId} {args : Array Value} {below : List Frame} {meth : Method} {c : Code} {D : va_G} {cy : Nat → ClassId} (ad : Nat → Nat) (A : Nat → Prop) {S : MS} {r : Int32} {out : ((Nat × Nat × Int32 × Int32 × Int32 × Int32) ⊕ Int32)} {ls : Array Slot} {z0 : Int32} (C0 : CX p s m args meth c RX1 cX1_guessFor 7 D cy) (M : MW D cy ad A S s.heap) (hr : meth.sig.returnType = some .int) (hF : bX1_guessFor_99 S z0 = some out) (hl : lv_has ls 7 []) (Kr : ∀ r9, out = .inr r9 → r9 = r) (Kh0 : ∀ (y0 : Nat) (y1 : Nat) (y2 : Int32) (y3 : Int32) (y4 : Int32) (y5 : Int32), out = .inl (y0, y1, y2, y3, y4, y5) → ∀ (ls1 : Array Slot), lv_has ls1 7 [(0, .ref (ad y0)), (1, .ref (ad y1)), (2, .int y2), (3, .int y3), (4, .int y4), (5, .int y5)] → W p l e rmX1_guessFor s m args below meth c s.heap [] 0 0 (MQ below (QcS (some (.int r))) args s 0 0 (fun _ => False)) (F0 m 22 ls1 [])) : W p l e rmX1_guessFor s m args below meth c s.heap [] 0 0 (MQ below (QcS (some (.int r))) args s 0 0 (fun _ => False)) (F0 m 99 ls [.int z0]) := by
  unfold bX1_guessFor_99 at hF
  obtain ⟨hx, hb, -, hown, -, hts, -⟩ := id C0
  obtain rfl := (Kr _ (Option.some.inj hF).symm)
  exact rt_SI C0 hr dX1_guessFor_99
set_option maxHeartbeats 4000000 in
set_option maxRecDepth 100000 in
theorem wX1_guessFor_82 {p : Program} {l : Launch} {e : Env} {s : State} {m : MethodId} {args : Array Value} {below : List Frame} {meth : Method} {c : Code} {D : va_G} {cy : Nat → ClassId} (ad : Nat → Nat) (A : Nat → Prop) {S : MS} {r : Int32} {out : ((Nat × Nat × Int32 × Int32 × Int32 × Int32) ⊕ Int32)} {ls : Array Slot} {x3 : Int32} {x4 : Int32} (C0 : CX p s m args meth c RX1 cX1_guessFor 7 D cy) (M : MW D cy ad A S s.heap) (hr : meth.sig.returnType = some .int) (hF : bX1_guessFor_82 S x3 x4 = some out) (hl : lv_has ls 7 [(3, .int x3), (4, .int x4)]) (Kr : ∀ r9, out = .inr r9 → r9 = r) (Kh0 : ∀ (y0 : Nat) (y1 : Nat) (y2 : Int32) (y3 : Int32) (y4 : Int32) (y5 : Int32), out = .inl (y0, y1, y2, y3, y4, y5) → ∀ (ls1 : Array Slot), lv_has ls1 7 [(0, .ref (ad y0)), (1, .ref (ad y1)), (2, .int y2), (3, .int y3), (4, .int y4), (5, .int y5)] → W p l e rmX1_guessFor s m args below meth c s.heap [] 0 0 (MQ below (QcS (some (.int r))) args s 0 0 (fun _ => False)) (F0 m 22 ls1 [])) : W p l e rmX1_guessFor s m args below meth c s.heap [] 0 0 (MQ below (QcS (some (.int r))) args s 0 0 (fun _ => False)) (F0 m 82 ls []) := by
  unfold bX1_guessFor_82 at hF
  obtain ⟨hx, hb, -, hown, -, hts, -⟩ := id C0
  refine lv_iload hx hb dX1_guessFor_82 (lv_at hl 1 rfl) ?_
  refine lv_if_ne (tgt := 93) hx hb dX1_guessFor_84 (by decide) (fun hc => ?_) (fun hc => ?_)
  · have hF := oi_f hc hF
    refine lv_iload_n hx hb dX1_guessFor_93 rfl (lv_at hl 0 rfl) ?_
    refine lv_iload hx hb dX1_guessFor_94 (lv_at hl 1 rfl) ?_
    obtain ⟨v96, hcl, hF⟩ := ob hF
    refine go_SI (r_S (rest := []) (As := [.int x3, .int x4]) C0 cb_X1_90 (tJ9_floorDiv_7cf53 l D cy ad hcl) (pre_S C0) hl dX1_guessFor_96 rfl (Nat.le_of_ble_eq_true rfl) ⟨rfl, rfl⟩ ⟨Nat.le_of_ble_eq_true rfl, Nat.le_of_ble_eq_true rfl⟩ ⟨Nat.le_of_ble_eq_true rfl, Nat.le_of_ble_eq_true rfl⟩ rfl) ?_
    exact wX1_guessFor_99 ad A C0 M hr hF (lv_sub hl [] rfl) Kr Kh0
  · have hF := oi_t hc hF
    refine lv_sipush (v := (10000 : Int32)) hx hb dX1_guessFor_87 (by decide) ?_
    refine lv_goto (tgt := 99) hx hb dX1_guessFor_90 (by decide) ?_
    exact wX1_guessFor_99 ad A C0 M hr hF (lv_sub hl [] rfl) Kr Kh0
set_option maxHeartbeats 4000000 in
set_option maxRecDepth 100000 in
theorem wX1_guessFor_22 {p : Program} {l : Launch} {e : Env} {s : State} {m : MethodId} {args : Array Value} {below : List Frame} {meth : Method} {c : Code} {D : va_G} {cy : Nat → ClassId} (ad : Nat → Nat) (A : Nat → Prop) {S : MS} {r : Int32} {out : ((Nat × Nat × Int32 × Int32 × Int32 × Int32) ⊕ Int32)} {ls : Array Slot} {x0 : Nat} {x1 : Nat} {x2 : Int32} {x3 : Int32} {x4 : Int32} {x5 : Int32} (C0 : CX p s m args meth c RX1 cX1_guessFor 7 D cy) (M : MW D cy ad A S s.heap) (hr : meth.sig.returnType = some .int) (hF : bX1_guessFor_22 S x0 x1 x2 x3 x4 x5 = some out) (hl : lv_has ls 7 [(0, .ref (ad x0)), (1, .ref (ad x1)), (2, .int x2), (3, .int x3), (4, .int x4), (5, .int x5)]) (Kr : ∀ r9, out = .inr r9 → r9 = r) (Kh0 : ∀ (y0 : Nat) (y1 : Nat) (y2 : Int32) (y3 : Int32) (y4 : Int32) (y5 : Int32), out = .inl (y0, y1, y2, y3, y4, y5) → ∀ (ls1 : Array Slot), lv_has ls1 7 [(0, .ref (ad y0)), (1, .ref (ad y1)), (2, .int y2), (3, .int y3), (4, .int y4), (5, .int y5)] → W p l e rmX1_guessFor s m args below meth c s.heap [] 0 0 (MQ below (QcS (some (.int r))) args s 0 0 (fun _ => False)) (F0 m 22 ls1 [])) : W p l e rmX1_guessFor s m args below meth c s.heap [] 0 0 (MQ below (QcS (some (.int r))) args s 0 0 (fun _ => False)) (F0 m 22 ls []) := by
  unfold bX1_guessFor_22 at hF
  obtain ⟨hx, hb, -, hown, -, hts, -⟩ := id C0
  refine lv_iload hx hb dX1_guessFor_22 (lv_at hl 5 rfl) ?_
  refine lv_iconst (v := (3 : Int32)) hx hb dX1_guessFor_24 (by decide) ?_
  refine lv_icmp_ge (tgt := 82) hx hb dX1_guessFor_25 (by decide) (fun hc => ?_) (fun hc => ?_)
  · have hF := oi_t hc hF
    exact wX1_guessFor_82 ad A C0 M hr hF (lv_sub hl [3, 4] rfl) Kr Kh0
  · have hF := oi_f hc hF
    refine lv_aload_n hx hb dX1_guessFor_28 rfl (lv_at hl 0 rfl) ?_
    refine lv_iload_n hx hb dX1_guessFor_29 rfl (lv_at hl 2 rfl) ?_
    refine lv_aload_n hx hb dX1_guessFor_30 rfl (lv_at hl 0 rfl) ?_
    obtain ⟨v31, hv, hF⟩ := ob hF
    refine k_getP C0 M hv fl_X1_28 dX1_guessFor_31 ?_
    refine lv_aload_n hx hb dX1_guessFor_34 rfl (lv_at hl 1 rfl) ?_
    obtain ⟨v35, hv, hF⟩ := ob hF
    refine k_getI C0 M hv fl_X1_54 dX1_guessFor_35 ?_
    obtain ⟨v38, hv, hF⟩ := ob hF
    refine k_ld C0 M hv dX1_guessFor_38 ?_
    obtain ⟨_, hrec, hF⟩ := ob hF
    obtain ⟨v39, hcl, hF⟩ := ob hF
    refine go_SI (r_V (rest := []) (As := [.int x2, .int v38]) C0 cb_X1_87 M hrec (tX1_nearestOf l D cy ad A hcl) (pre_R C0 M) hl dX1_guessFor_39 rfl (Nat.le_of_ble_eq_true rfl) ⟨rfl, rfl⟩ ⟨Nat.le_of_ble_eq_true rfl, Nat.le_of_ble_eq_true rfl⟩ ⟨Nat.le_of_ble_eq_true rfl, Nat.le_of_ble_eq_true rfl⟩ rfl) ?_
    refine lv_istore (lv' := [(6, .int v39), (0, .ref (ad x0)), (1, .ref (ad x1)), (2, .int x2), (3, .int x3), (4, .int x4), (5, .int x5)]) hx hb dX1_guessFor_42 hl (by decide) rfl (fun ls hl => ?_)
    refine lv_iload hx hb dX1_guessFor_44 (lv_at hl 0 rfl) ?_
    refine lv_bipush (v := (-9 : Int32)) hx hb dX1_guessFor_46 (by decide) ?_
    refine lv_icmp_ne (tgt := 54) hx hb dX1_guessFor_48 (by decide) (fun hc => ?_) (fun hc => ?_)
    · have hF := oi_f hc hF
      refine lv_iload_n hx hb dX1_guessFor_54 rfl (lv_at hl 3 rfl) ?_
      refine lv_iconst (v := (1 : Int32)) hx hb dX1_guessFor_55 (by decide) ?_
      refine lv_iload hx hb dX1_guessFor_56 (lv_at hl 0 rfl) ?_
      refine lv_ishl hx hb dX1_guessFor_58 ?_
      refine lv_iconst (v := (-1 : Int32)) hx hb dX1_guessFor_59 (by decide) ?_
      refine lv_ixor hx hb dX1_guessFor_60 ?_
      refine lv_iand hx hb dX1_guessFor_61 ?_
      obtain ⟨v62, hv, hF⟩ := ob hF
      have hv := vtI hv
      refine vtopi hv ?_
      refine lv_istore_n (lv' := [(2, .int v62), (6, .int v39), (0, .ref (ad x0)), (1, .ref (ad x1)), (3, .int x3), (4, .int x4), (5, .int x5)]) hx hb dX1_guessFor_62 rfl hl (by decide) rfl (fun ls hl => ?_)
      refine lv_iload_n hx hb dX1_guessFor_63 rfl (lv_at hl 4 rfl) ?_
      refine lv_aload_n hx hb dX1_guessFor_64 rfl (lv_at hl 2 rfl) ?_
      obtain ⟨v65, hv, hF⟩ := ob hF
      refine k_getP C0 M hv fl_X1_35 dX1_guessFor_65 ?_
      refine lv_iload hx hb dX1_guessFor_68 (lv_at hl 1 rfl) ?_
      obtain ⟨v70, hv, hF⟩ := ob hF
      refine k_ld C0 M hv dX1_guessFor_70 ?_
      refine lv_iadd hx hb dX1_guessFor_71 ?_
      obtain ⟨v72, hv, hF⟩ := ob hF
      have hv := vtI hv
      refine vtopi hv ?_
      refine lv_istore_n (lv' := [(3, .int v72), (2, .int v62), (6, .int v39), (0, .ref (ad x0)), (1, .ref (ad x1)), (4, .int x4), (5, .int x5)]) hx hb dX1_guessFor_72 rfl hl (by decide) rfl (fun ls hl => ?_)
      obtain ⟨v73, hv, hF⟩ := ob hF
      refine lv_iinc (v := v73) (lv' := [(4, .int v73), (3, .int v72), (2, .int v62), (6, .int v39), (0, .ref (ad x0)), (1, .ref (ad x1)), (5, .int x5)]) hx hb dX1_guessFor_73 hl (k := 5) rfl (by rw [← vtI hv]; rfl) (by decide) rfl (fun ls hl => ?_)
      obtain ⟨v76, hv, hF⟩ := ob hF
      refine lv_iinc (v := v76) (lv' := [(5, .int v76), (4, .int v73), (3, .int v72), (2, .int v62), (6, .int v39), (0, .ref (ad x0)), (1, .ref (ad x1))]) hx hb dX1_guessFor_76 hl (k := 6) rfl (by rw [← vtI hv]; rfl) (by decide) rfl (fun ls hl => ?_)
      refine lv_goto (tgt := 22) hx hb dX1_guessFor_79 (by decide) ?_
      exact Kh0 _ _ _ _ _ _ (Option.some.inj hF).symm _ (lv_sub hl [5, 6, 3, 2, 1, 0] rfl)
    · have hF := oi_t hc hF
      refine lv_goto (tgt := 82) hx hb dX1_guessFor_51 (by decide) ?_
      exact wX1_guessFor_82 ad A C0 M hr hF (lv_sub hl [4, 5] rfl) Kr Kh0
set_option maxHeartbeats 4000000 in
set_option maxRecDepth 100000 in
theorem tX1_guessFor (l : Launch) (D : va_G) (cy : Nat → ClassId) (ad : Nat → Nat) (A : Nat → Prop) {S : MS} {a0 : Nat} {a1 : Nat} {r : Int32} (h : fX1_guessFor S a0 a1 = some r) : Met l yX1_guessFor [Cond.code yX1_guessFor cX1_guessFor 7 (some .int)] rmX1_guessFor (PcR D cy ad A S [.ref (ad a0), .ref (ad a1)]) (QcS (some (.int r))) 0 0 (fun _ => False) := by
  refine met_R (by decide +kernel) cw_X1_guessFor (Nat.le_of_ble_eq_true rfl) ?_
  intro p e s m args below meth c ls C0 M hr hl
  have hl : lv_has ls 7 [(0, .ref (ad a0)), (1, .ref (ad a1))] := hl
  have key := lim_walk (step := sX1_guessFor S) (fun (q : (Nat × Nat × Int32 × Int32 × Int32 × Int32)) (r9 : Int32) => ∀ (r : Int32), r9 = r → ((∀ (y0 : Nat) (y1 : Nat) (y2 : Int32) (y3 : Int32) (y4 : Int32) (y5 : Int32), q = (y0, y1, y2, y3, y4, y5) → ∀ (ls1 : Array Slot), lv_has ls1 7 [(0, .ref (ad y0)), (1, .ref (ad y1)), (2, .int y2), (3, .int y3), (4, .int y4), (5, .int y5)] → W p l e rmX1_guessFor s m args below meth c s.heap [] 0 0 (MQ below (QcS (some (.int r))) args s 0 0 (fun _ => False)) (F0 m 22 ls1 [])))) ?_
  · unfold fX1_guessFor at h
    cases hs0 : bX1_guessFor_0 S a0 a1 with
    | none => rw [hs0] at h; cases h
    | some out =>
      rw [hs0] at h
      refine wX1_guessFor_0 ad A C0 M hr hs0 hl (fun r9 hr9 => ?_) ?_
      · subst hr9; exact Option.some.inj h
      · intro y0 y1 y2 y3 y4 y5 hq; subst hq; exact (key _ _ h _ rfl) _ _ _ _ _ _ rfl
  · intro q r9 out hst hre hin9
    intro r er; subst er
    refine ?_
    · intro y0 y1 y2 y3 y4 y5 hq ls1 hl
      subst hq
      exact wX1_guessFor_22 ad A C0 M hr hst hl hre (fun k0 k1 k2 k3 k4 k5 hk => (hin9 _ hk _ rfl) _ _ _ _ _ _ rfl)
set_option maxHeartbeats 4000000 in
set_option maxRecDepth 100000 in
theorem wX8_levelOf_25 {p : Program} {l : Launch} {e : Env} {s : State} {m : MethodId} {args : Array Value} {below : List Frame} {meth : Method} {c : Code} {D : va_G} {cy : Nat → ClassId} (ad : Nat → Nat) (A : Nat → Prop) {S : MS} {r : Int32} {ls : Array Slot} {x0 : Nat} {z0 : Int32} (C0 : CX p s m args meth c RX8 cX8_levelOf 4 D cy) (M : MW D cy ad A S s.heap) (hr : meth.sig.returnType = some .int) (hF : bX8_levelOf_25 S x0 z0 = some r) (hl : lv_has ls 4 [(0, .ref (ad x0))]) : W p l e rmX8_levelOf s m args below meth c s.heap [] 0 0 (MQ below (QcS (some (.int r))) args s 0 0 (fun _ => False)) (F0 m 25 ls [.int z0]) := by
  unfold bX8_levelOf_25 at hF
  obtain ⟨hx, hb, -, hown, -, hts, -⟩ := id C0
  refine lv_istore_n (lv' := [(3, .int z0), (0, .ref (ad x0))]) hx hb dX8_levelOf_25 rfl hl (by decide) rfl (fun ls hl => ?_)
  refine lv_iload_n hx hb dX8_levelOf_26 rfl (lv_at hl 0 rfl) ?_
  refine lv_bipush (v := (12 : Int32)) hx hb dX8_levelOf_27 (by decide) ?_
  refine lv_aload_n hx hb dX8_levelOf_29 rfl (lv_at hl 1 rfl) ?_
  obtain ⟨v30, hv, hF⟩ := ob hF
  refine k_getI C0 M hv fl_X8_15 dX8_levelOf_30 ?_
  refine lv_imul hx hb dX8_levelOf_33 ?_
  refine lv_bipush (v := (100 : Int32)) hx hb dX8_levelOf_34 (by decide) ?_
  obtain ⟨v36, hcl, hF⟩ := ob hF
  refine go_SI (r_S (rest := [.int z0]) (As := [.int ((12 : Int32) * v30), .int (100 : Int32)]) C0 cb_X8_50 (tJ9_floorDiv_7cf53 l D cy ad hcl) (pre_S C0) hl dX8_levelOf_36 rfl (Nat.le_of_ble_eq_true rfl) ⟨rfl, rfl⟩ ⟨Nat.le_of_ble_eq_true rfl, Nat.le_of_ble_eq_true rfl⟩ ⟨Nat.le_of_ble_eq_true rfl, Nat.le_of_ble_eq_true rfl⟩ rfl) ?_
  refine lv_iadd hx hb dX8_levelOf_39 ?_
  obtain rfl := (Option.some.inj hF)
  exact rt_SI C0 hr dX8_levelOf_40
set_option maxHeartbeats 4000000 in
set_option maxRecDepth 100000 in
theorem wX8_levelOf_0 {p : Program} {l : Launch} {e : Env} {s : State} {m : MethodId} {args : Array Value} {below : List Frame} {meth : Method} {c : Code} {D : va_G} {cy : Nat → ClassId} (ad : Nat → Nat) (A : Nat → Prop) {S : MS} {r : Int32} {ls : Array Slot} {x0 : Nat} {x1 : Int32} (C0 : CX p s m args meth c RX8 cX8_levelOf 4 D cy) (M : MW D cy ad A S s.heap) (hr : meth.sig.returnType = some .int) (hF : bX8_levelOf_0 S x0 x1 = some r) (hl : lv_has ls 4 [(0, .ref (ad x0)), (1, .int x1)]) : W p l e rmX8_levelOf s m args below meth c s.heap [] 0 0 (MQ below (QcS (some (.int r))) args s 0 0 (fun _ => False)) (F0 m 0 ls []) := by
  unfold bX8_levelOf_0 at hF
  obtain ⟨hx, hb, -, hown, -, hts, -⟩ := id C0
  refine lv_iload_n hx hb dX8_levelOf_0 rfl (lv_at hl 1 rfl) ?_
  refine lv_bipush (v := (100 : Int32)) hx hb dX8_levelOf_1 (by decide) ?_
  refine lv_idiv hx hb dX8_levelOf_3 (by decide) ?_
  obtain ⟨v4, hv, hF⟩ := ob hF
  have hv := vtI hv
  refine vtopi hv ?_
  refine lv_istore_n (lv' := [(2, .int v4), (0, .ref (ad x0)), (1, .int x1)]) hx hb dX8_levelOf_4 rfl hl (by decide) rfl (fun ls hl => ?_)
  refine lv_iload_n hx hb dX8_levelOf_5 rfl (lv_at hl 0 rfl) ?_
  refine lv_sipush (v := (500 : Int32)) hx hb dX8_levelOf_6 (by decide) ?_
  refine lv_icmp_ge (tgt := 20) hx hb dX8_levelOf_9 (by decide) (fun hc => ?_) (fun hc => ?_)
  · have hF := oi_t hc hF
    refine lv_sipush (v := (9000 : Int32)) hx hb dX8_levelOf_20 (by decide) ?_
    refine lv_iload_n hx hb dX8_levelOf_23 rfl (lv_at hl 0 rfl) ?_
    refine lv_iadd hx hb dX8_levelOf_24 ?_
    exact wX8_levelOf_25 ad A C0 M hr hF (lv_sub hl [1] rfl)
  · have hF := oi_f hc hF
    refine lv_sipush (v := (10000 : Int32)) hx hb dX8_levelOf_12 (by decide) ?_
    refine lv_iload_n hx hb dX8_levelOf_15 rfl (lv_at hl 0 rfl) ?_
    refine lv_iadd hx hb dX8_levelOf_16 ?_
    refine lv_goto (tgt := 25) hx hb dX8_levelOf_17 (by decide) ?_
    exact wX8_levelOf_25 ad A C0 M hr hF (lv_sub hl [1] rfl)
set_option maxHeartbeats 4000000 in
set_option maxRecDepth 100000 in
theorem tX8_levelOf (l : Launch) (D : va_G) (cy : Nat → ClassId) (ad : Nat → Nat) (A : Nat → Prop) {S : MS} {a0 : Nat} {a1 : Int32} {r : Int32} (h : fX8_levelOf S a0 a1 = some r) : Met l yX8_levelOf [Cond.code yX8_levelOf cX8_levelOf 4 (some .int)] rmX8_levelOf (PcR D cy ad A S [.ref (ad a0), .int a1]) (QcS (some (.int r))) 0 0 (fun _ => False) := by
  refine met_R (by decide +kernel) cw_X8_levelOf (Nat.le_of_ble_eq_true rfl) ?_
  intro p e s m args below meth c ls C0 M hr hl
  have hl : lv_has ls 4 [(0, .ref (ad a0)), (1, .int a1)] := hl
  exact wX8_levelOf_0 ad A C0 M hr h hl
set_option maxHeartbeats 4000000 in
set_option maxRecDepth 100000 in
theorem wX8_countFillings_0 {p : Program} {l : Launch} {e : Env} {s : State} {m : MethodId} {args : Array Value} {below : List Frame} {meth : Method} {c : Code} {D : va_G} {cy : Nat → ClassId} (ad : Nat → Nat) (A : Nat → Prop) {S : MS} {r : Int32} {out : ((Nat × Int32 × Int32 × Int32) ⊕ Int32)} {ls : Array Slot} {x0 : Nat} {x1 : Int32} (C0 : CX p s m args meth c RX8 cX8_countFillings 4 D cy) (M : MW D cy ad A S s.heap) (hr : meth.sig.returnType = some .int) (hF : bX8_countFillings_0 S x0 x1 = some out) (hl : lv_has ls 4 [(0, .ref (ad x0)), (1, .int x1)]) (Kr : ∀ r9, out = .inr r9 → r9 = r) (Kh0 : ∀ (y0 : Nat) (y1 : Int32) (y2 : Int32) (y3 : Int32), out = .inl (y0, y1, y2, y3) → ∀ (ls1 : Array Slot), lv_has ls1 4 [(0, .ref (ad y0)), (1, .int y1), (2, .int y2), (3, .int y3)] → W p l e rmX8_countFillings s m args below meth c s.heap [] 0 0 (MQ below (QcS (some (.int r))) args s 0 0 (fun _ => False)) (F0 m 4 ls1 [])) : W p l e rmX8_countFillings s m args below meth c s.heap [] 0 0 (MQ below (QcS (some (.int r))) args s 0 0 (fun _ => False)) (F0 m 0 ls []) := by
  unfold bX8_countFillings_0 at hF
  obtain ⟨hx, hb, -, hown, -, hts, -⟩ := id C0
  refine lv_iconst (v := (1 : Int32)) hx hb dX8_countFillings_0 (by decide) ?_
  refine lv_istore_n (lv' := [(2, .int (1 : Int32)), (0, .ref (ad x0)), (1, .int x1)]) hx hb dX8_countFillings_1 rfl hl (by decide) rfl (fun ls hl => ?_)
  refine lv_iconst (v := (0 : Int32)) hx hb dX8_countFillings_2 (by decide) ?_
  refine lv_istore_n (lv' := [(3, .int (0 : Int32)), (2, .int (1 : Int32)), (0, .ref (ad x0)), (1, .int x1)]) hx hb dX8_countFillings_3 rfl hl (by decide) rfl (fun ls hl => ?_)
  exact Kh0 _ _ _ _ (Option.some.inj hF).symm _ (lv_sub hl [2, 3, 1, 0] rfl)
set_option maxHeartbeats 4000000 in
set_option maxRecDepth 100000 in
theorem wX8_countFillings_27 {p : Program} {l : Launch} {e : Env} {s : State} {m : MethodId} {args : Array Value} {below : List Frame} {meth : Method} {c : Code} {D : va_G} {cy : Nat → ClassId} (ad : Nat → Nat) (A : Nat → Prop) {S : MS} {r : Int32} {out : ((Nat × Int32 × Int32 × Int32) ⊕ Int32)} {ls : Array Slot} {x0 : Nat} {x1 : Int32} {x2 : Int32} {x3 : Int32} (C0 : CX p s m args meth c RX8 cX8_countFillings 4 D cy) (M : MW D cy ad A S s.heap) (hr : meth.sig.returnType = some .int) (hF : bX8_countFillings_27 S x0 x1 x2 x3 = some out) (hl : lv_has ls 4 [(0, .ref (ad x0)), (1, .int x1), (2, .int x2), (3, .int x3)]) (Kr : ∀ r9, out = .inr r9 → r9 = r) (Kh0 : ∀ (y0 : Nat) (y1 : Int32) (y2 : Int32) (y3 : Int32), out = .inl (y0, y1, y2, y3) → ∀ (ls1 : Array Slot), lv_has ls1 4 [(0, .ref (ad y0)), (1, .int y1), (2, .int y2), (3, .int y3)] → W p l e rmX8_countFillings s m args below meth c s.heap [] 0 0 (MQ below (QcS (some (.int r))) args s 0 0 (fun _ => False)) (F0 m 4 ls1 [])) : W p l e rmX8_countFillings s m args below meth c s.heap [] 0 0 (MQ below (QcS (some (.int r))) args s 0 0 (fun _ => False)) (F0 m 27 ls []) := by
  unfold bX8_countFillings_27 at hF
  obtain ⟨hx, hb, -, hown, -, hts, -⟩ := id C0
  obtain ⟨v27, hv, hF⟩ := ob hF
  refine lv_iinc (v := v27) (lv' := [(3, .int v27), (0, .ref (ad x0)), (1, .int x1), (2, .int x2)]) hx hb dX8_countFillings_27 hl (k := 3) rfl (by rw [← vtI hv]; rfl) (by decide) rfl (fun ls hl => ?_)
  refine lv_goto (tgt := 4) hx hb dX8_countFillings_30 (by decide) ?_
  exact Kh0 _ _ _ _ (Option.some.inj hF).symm _ (lv_sub hl [1, 2, 3, 0] rfl)
set_option maxHeartbeats 4000000 in
set_option maxRecDepth 100000 in
theorem wX8_countFillings_4 {p : Program} {l : Launch} {e : Env} {s : State} {m : MethodId} {args : Array Value} {below : List Frame} {meth : Method} {c : Code} {D : va_G} {cy : Nat → ClassId} (ad : Nat → Nat) (A : Nat → Prop) {S : MS} {r : Int32} {out : ((Nat × Int32 × Int32 × Int32) ⊕ Int32)} {ls : Array Slot} {x0 : Nat} {x1 : Int32} {x2 : Int32} {x3 : Int32} (C0 : CX p s m args meth c RX8 cX8_countFillings 4 D cy) (M : MW D cy ad A S s.heap) (hr : meth.sig.returnType = some .int) (hF : bX8_countFillings_4 S x0 x1 x2 x3 = some out) (hl : lv_has ls 4 [(0, .ref (ad x0)), (1, .int x1), (2, .int x2), (3, .int x3)]) (Kr : ∀ r9, out = .inr r9 → r9 = r) (Kh0 : ∀ (y0 : Nat) (y1 : Int32) (y2 : Int32) (y3 : Int32), out = .inl (y0, y1, y2, y3) → ∀ (ls1 : Array Slot), lv_has ls1 4 [(0, .ref (ad y0)), (1, .int y1), (2, .int y2), (3, .int y3)] → W p l e rmX8_countFillings s m args below meth c s.heap [] 0 0 (MQ below (QcS (some (.int r))) args s 0 0 (fun _ => False)) (F0 m 4 ls1 [])) : W p l e rmX8_countFillings s m args below meth c s.heap [] 0 0 (MQ below (QcS (some (.int r))) args s 0 0 (fun _ => False)) (F0 m 4 ls []) := by
  unfold bX8_countFillings_4 at hF
  obtain ⟨hx, hb, -, hown, -, hts, -⟩ := id C0
  refine lv_iload_n hx hb dX8_countFillings_4 rfl (lv_at hl 3 rfl) ?_
  refine lv_iconst (v := (4 : Int32)) hx hb dX8_countFillings_5 (by decide) ?_
  refine lv_icmp_ge (tgt := 33) hx hb dX8_countFillings_6 (by decide) (fun hc => ?_) (fun hc => ?_)
  · have hF := oi_t hc hF
    refine lv_iload_n hx hb dX8_countFillings_33 rfl (lv_at hl 2 rfl) ?_
    obtain rfl := (Kr _ (Option.some.inj hF).symm)
    exact rt_SI C0 hr dX8_countFillings_34
  · have hF := oi_f hc hF
    refine lv_aload_n hx hb dX8_countFillings_9 rfl (lv_at hl 0 rfl) ?_
    obtain ⟨v10, hv, hF⟩ := ob hF
    refine k_getP C0 M hv fl_X8_24 dX8_countFillings_10 ?_
    refine lv_iconst (v := (5 : Int32)) hx hb dX8_countFillings_13 (by decide) ?_
    refine lv_iload_n hx hb dX8_countFillings_14 rfl (lv_at hl 1 rfl) ?_
    refine lv_imul hx hb dX8_countFillings_15 ?_
    refine lv_iload_n hx hb dX8_countFillings_16 rfl (lv_at hl 3 rfl) ?_
    refine lv_iadd hx hb dX8_countFillings_17 ?_
    obtain ⟨v18, hv, hF⟩ := ob hF
    refine k_ld C0 M hv dX8_countFillings_18 ?_
    refine lv_if_ge (tgt := 27) hx hb dX8_countFillings_19 (by decide) (fun hc => ?_) (fun hc => ?_)
    · have hF := oi_t hc hF
      exact wX8_countFillings_27 ad A C0 M hr hF (lv_sub hl [0, 1, 2, 3] rfl) Kr Kh0
    · have hF := oi_f hc hF
      refine lv_iload_n hx hb dX8_countFillings_22 rfl (lv_at hl 2 rfl) ?_
      refine lv_bipush (v := (10 : Int32)) hx hb dX8_countFillings_23 (by decide) ?_
      refine lv_imul hx hb dX8_countFillings_25 ?_
      obtain ⟨v26, hv, hF⟩ := ob hF
      have hv := vtI hv
      refine vtopi hv ?_
      refine lv_istore_n (lv' := [(2, .int v26), (0, .ref (ad x0)), (1, .int x1), (3, .int x3)]) hx hb dX8_countFillings_26 rfl hl (by decide) rfl (fun ls hl => ?_)
      exact wX8_countFillings_27 ad A C0 M hr hF (lv_sub hl [1, 2, 0, 3] rfl) Kr Kh0
set_option maxHeartbeats 4000000 in
set_option maxRecDepth 100000 in
theorem tX8_countFillings (l : Launch) (D : va_G) (cy : Nat → ClassId) (ad : Nat → Nat) (A : Nat → Prop) {S : MS} {a0 : Nat} {a1 : Int32} {r : Int32} (h : fX8_countFillings S a0 a1 = some r) : Met l yX8_countFillings [Cond.code yX8_countFillings cX8_countFillings 4 (some .int)] rmX8_countFillings (PcR D cy ad A S [.ref (ad a0), .int a1]) (QcS (some (.int r))) 0 0 (fun _ => False) := by
  refine met_R (by decide +kernel) cw_X8_countFillings (Nat.le_of_ble_eq_true rfl) ?_
  intro p e s m args below meth c ls C0 M hr hl
  have hl : lv_has ls 4 [(0, .ref (ad a0)), (1, .int a1)] := hl
  have key := lim_walk (step := sX8_countFillings S) (fun (q : (Nat × Int32 × Int32 × Int32)) (r9 : Int32) => ∀ (r : Int32), r9 = r → ((∀ (y0 : Nat) (y1 : Int32) (y2 : Int32) (y3 : Int32), q = (y0, y1, y2, y3) → ∀ (ls1 : Array Slot), lv_has ls1 4 [(0, .ref (ad y0)), (1, .int y1), (2, .int y2), (3, .int y3)] → W p l e rmX8_countFillings s m args below meth c s.heap [] 0 0 (MQ below (QcS (some (.int r))) args s 0 0 (fun _ => False)) (F0 m 4 ls1 [])))) ?_
  · unfold fX8_countFillings at h
    cases hs0 : bX8_countFillings_0 S a0 a1 with
    | none => rw [hs0] at h; cases h
    | some out =>
      rw [hs0] at h
      refine wX8_countFillings_0 ad A C0 M hr hs0 hl (fun r9 hr9 => ?_) ?_
      · subst hr9; exact Option.some.inj h
      · intro y0 y1 y2 y3 hq; subst hq; exact (key _ _ h _ rfl) _ _ _ _ rfl
  · intro q r9 out hst hre hin9
    intro r er; subst er
    refine ?_
    · intro y0 y1 y2 y3 hq ls1 hl
      subst hq
      exact wX8_countFillings_4 ad A C0 M hr hst hl hre (fun k0 k1 k2 k3 hk => (hin9 _ hk _ rfl) _ _ _ _ rfl)
set_option maxHeartbeats 4000000 in
set_option maxRecDepth 100000 in
theorem wX8_filled_0 {p : Program} {l : Launch} {e : Env} {s : State} {m : MethodId} {args : Array Value} {below : List Frame} {meth : Method} {c : Code} {D : va_G} {cy : Nat → ClassId} (ad : Nat → Nat) (A : Nat → Prop) {S : MS} {r : Int32} {out : ((Nat × Int32 × Int32 × Int32 × Int32 × Int32 × Int32 × Int32) ⊕ Int32)} {ls : Array Slot} {x0 : Nat} {x1 : Int32} {x2 : Int32} (C0 : CX p s m args meth c RX8 cX8_filled 10 D cy) (M : MW D cy ad A S s.heap) (hr : meth.sig.returnType = some .int) (hF : bX8_filled_0 S x0 x1 x2 = some out) (hl : lv_has ls 10 [(0, .ref (ad x0)), (1, .int x1), (2, .int x2)]) (Kr : ∀ r9, out = .inr r9 → r9 = r) (Kh0 : ∀ (y0 : Nat) (y1 : Int32) (y2 : Int32) (y3 : Int32) (y4 : Int32) (y5 : Int32) (y6 : Int32) (y7 : Int32), out = .inl (y0, y1, y2, y3, y4, y5, y6, y7) → ∀ (ls1 : Array Slot), lv_has ls1 10 [(0, .ref (ad y0)), (1, .int y1), (3, .int y2), (4, .int y3), (5, .int y4), (6, .int y5), (7, .int y6), (8, .int y7)] → W p l e rmX8_filled s m args below meth c s.heap [] 0 0 (MQ below (QcS (some (.int r))) args s 0 0 (fun _ => False)) (F0 m 19 ls1 [])) : W p l e rmX8_filled s m args below meth c s.heap [] 0 0 (MQ below (QcS (some (.int r))) args s 0 0 (fun _ => False)) (F0 m 0 ls []) := by
  unfold bX8_filled_0 at hF
  obtain ⟨hx, hb, -, hown, -, hts, -⟩ := id C0
  refine lv_iconst (v := (5 : Int32)) hx hb dX8_filled_0 (by decide) ?_
  refine lv_iload_n hx hb dX8_filled_1 rfl (lv_at hl 1 rfl) ?_
  refine lv_imul hx hb dX8_filled_2 ?_
  obtain ⟨v3, hv, hF⟩ := ob hF
  have hv := vtI hv
  refine vtopi hv ?_
  refine lv_istore_n (lv' := [(3, .int v3), (0, .ref (ad x0)), (1, .int x1), (2, .int x2)]) hx hb dX8_filled_3 rfl hl (by decide) rfl (fun ls hl => ?_)
  refine lv_iload_n hx hb dX8_filled_4 rfl (lv_at hl 3 rfl) ?_
  refine lv_istore (lv' := [(4, .int x2), (3, .int v3), (0, .ref (ad x0)), (1, .int x1), (2, .int x2)]) hx hb dX8_filled_5 hl (by decide) rfl (fun ls hl => ?_)
  refine lv_iconst (v := (0 : Int32)) hx hb dX8_filled_7 (by decide) ?_
  refine lv_istore (lv' := [(5, .int (0 : Int32)), (4, .int x2), (3, .int v3), (0, .ref (ad x0)), (1, .int x1), (2, .int x2)]) hx hb dX8_filled_8 hl (by decide) rfl (fun ls hl => ?_)
  refine lv_iconst (v := (1 : Int32)) hx hb dX8_filled_10 (by decide) ?_
  refine lv_istore (lv' := [(6, .int (1 : Int32)), (5, .int (0 : Int32)), (4, .int x2), (3, .int v3), (0, .ref (ad x0)), (1, .int x1), (2, .int x2)]) hx hb dX8_filled_11 hl (by decide) rfl (fun ls hl => ?_)
  refine lv_iconst (v := (0 : Int32)) hx hb dX8_filled_13 (by decide) ?_
  refine lv_istore (lv' := [(7, .int (0 : Int32)), (6, .int (1 : Int32)), (5, .int (0 : Int32)), (4, .int x2), (3, .int v3), (0, .ref (ad x0)), (1, .int x1), (2, .int x2)]) hx hb dX8_filled_14 hl (by decide) rfl (fun ls hl => ?_)
  refine lv_iconst (v := (3 : Int32)) hx hb dX8_filled_16 (by decide) ?_
  refine lv_istore (lv' := [(8, .int (3 : Int32)), (7, .int (0 : Int32)), (6, .int (1 : Int32)), (5, .int (0 : Int32)), (4, .int x2), (3, .int v3), (0, .ref (ad x0)), (1, .int x1), (2, .int x2)]) hx hb dX8_filled_17 hl (by decide) rfl (fun ls hl => ?_)
  exact Kh0 _ _ _ _ _ _ _ _ (Option.some.inj hF).symm _ (lv_sub hl [6, 7, 5, 4, 3, 2, 1, 0] rfl)
set_option maxHeartbeats 4000000 in
set_option maxRecDepth 100000 in
theorem wX8_filled_89 {p : Program} {l : Launch} {e : Env} {s : State} {m : MethodId} {args : Array Value} {below : List Frame} {meth : Method} {c : Code} {D : va_G} {cy : Nat → ClassId} (ad : Nat → Nat) (A : Nat → Prop) {S : MS} {r : Int32} {out : ((Nat × Int32 × Int32 × Int32 × Int32 × Int32 × Int32 × Int32) ⊕ Int32)} {ls : Array Slot} {x0 : Nat} {x1 : Int32} {x3 : Int32} {x4 : Int32} {x5 : Int32} {x6 : Int32} {x8 : Int32} {z0 : Int32} {z1 : Int32} (C0 : CX p s m args meth c RX8 cX8_filled 10 D cy) (M : MW D cy ad A S s.heap) (hr : meth.sig.returnType = some .int) (hF : bX8_filled_89 S x0 x1 x3 x4 x5 x6 x8 z0 z1 = some out) (hl : lv_has ls 10 [(0, .ref (ad x0)), (1, .int x1), (3, .int x3), (4, .int x4), (5, .int x5), (6, .int x6), (8, .int x8)]) (Kr : ∀ r9, out = .inr r9 → r9 = r) (Kh0 : ∀ (y0 : Nat) (y1 : Int32) (y2 : Int32) (y3 : Int32) (y4 : Int32) (y5 : Int32) (y6 : Int32) (y7 : Int32), out = .inl (y0, y1, y2, y3, y4, y5, y6, y7) → ∀ (ls1 : Array Slot), lv_has ls1 10 [(0, .ref (ad y0)), (1, .int y1), (3, .int y2), (4, .int y3), (5, .int y4), (6, .int y5), (7, .int y6), (8, .int y7)] → W p l e rmX8_filled s m args below meth c s.heap [] 0 0 (MQ below (QcS (some (.int r))) args s 0 0 (fun _ => False)) (F0 m 19 ls1 [])) : W p l e rmX8_filled s m args below meth c s.heap [] 0 0 (MQ below (QcS (some (.int r))) args s 0 0 (fun _ => False)) (F0 m 89 ls [.int z1, .int z0]) := by
  unfold bX8_filled_89 at hF
  obtain ⟨hx, hb, -, hown, -, hts, -⟩ := id C0
  refine lv_iadd hx hb dX8_filled_89 ?_
  obtain ⟨v90, hv, hF⟩ := ob hF
  have hv := vtI hv
  refine vtopi hv ?_
  refine lv_istore (lv' := [(7, .int v90), (0, .ref (ad x0)), (1, .int x1), (3, .int x3), (4, .int x4), (5, .int x5), (6, .int x6), (8, .int x8)]) hx hb dX8_filled_90 hl (by decide) rfl (fun ls hl => ?_)
  obtain ⟨v92, hv, hF⟩ := ob hF
  refine lv_iinc (v := v92) (lv' := [(8, .int v92), (7, .int v90), (0, .ref (ad x0)), (1, .int x1), (3, .int x3), (4, .int x4), (5, .int x5), (6, .int x6)]) hx hb dX8_filled_92 hl (k := 7) rfl (by rw [← vtI hv]; rfl) (by decide) rfl (fun ls hl => ?_)
  refine lv_goto (tgt := 19) hx hb dX8_filled_95 (by decide) ?_
  exact Kh0 _ _ _ _ _ _ _ _ (Option.some.inj hF).symm _ (lv_sub hl [2, 3, 4, 5, 6, 7, 1, 0] rfl)
set_option maxHeartbeats 4000000 in
set_option maxRecDepth 100000 in
theorem wX8_filled_54 {p : Program} {l : Launch} {e : Env} {s : State} {m : MethodId} {args : Array Value} {below : List Frame} {meth : Method} {c : Code} {D : va_G} {cy : Nat → ClassId} (ad : Nat → Nat) (A : Nat → Prop) {S : MS} {r : Int32} {out : ((Nat × Int32 × Int32 × Int32 × Int32 × Int32 × Int32 × Int32) ⊕ Int32)} {ls : Array Slot} {x0 : Nat} {x1 : Int32} {x3 : Int32} {x4 : Int32} {x5 : Int32} {x6 : Int32} {x7 : Int32} {x8 : Int32} {x9 : Int32} (C0 : CX p s m args meth c RX8 cX8_filled 10 D cy) (M : MW D cy ad A S s.heap) (hr : meth.sig.returnType = some .int) (hF : bX8_filled_54 S x0 x1 x3 x4 x5 x6 x7 x8 x9 = some out) (hl : lv_has ls 10 [(0, .ref (ad x0)), (1, .int x1), (3, .int x3), (4, .int x4), (5, .int x5), (6, .int x6), (7, .int x7), (8, .int x8), (9, .int x9)]) (Kr : ∀ r9, out = .inr r9 → r9 = r) (Kh0 : ∀ (y0 : Nat) (y1 : Int32) (y2 : Int32) (y3 : Int32) (y4 : Int32) (y5 : Int32) (y6 : Int32) (y7 : Int32), out = .inl (y0, y1, y2, y3, y4, y5, y6, y7) → ∀ (ls1 : Array Slot), lv_has ls1 10 [(0, .ref (ad y0)), (1, .int y1), (3, .int y2), (4, .int y3), (5, .int y4), (6, .int y5), (7, .int y6), (8, .int y7)] → W p l e rmX8_filled s m args below meth c s.heap [] 0 0 (MQ below (QcS (some (.int r))) args s 0 0 (fun _ => False)) (F0 m 19 ls1 [])) : W p l e rmX8_filled s m args below meth c s.heap [] 0 0 (MQ below (QcS (some (.int r))) args s 0 0 (fun _ => False)) (F0 m 54 ls []) := by
  unfold bX8_filled_54 at hF
  obtain ⟨hx, hb, -, hown, -, hts, -⟩ := id C0
  refine lv_iload hx hb dX8_filled_54 (lv_at hl 4 rfl) ?_
  refine lv_iload hx hb dX8_filled_56 (lv_at hl 5 rfl) ?_
  refine lv_iload hx hb dX8_filled_58 (lv_at hl 8 rfl) ?_
  refine lv_imul hx hb dX8_filled_60 ?_
  refine lv_iadd hx hb dX8_filled_61 ?_
  obtain ⟨v62, hv, hF⟩ := ob hF
  have hv := vtI hv
  refine vtopi hv ?_
  refine lv_istore (lv' := [(5, .int v62), (0, .ref (ad x0)), (1, .int x1), (3, .int x3), (4, .int x4), (6, .int x6), (7, .int x7), (8, .int x8), (9, .int x9)]) hx hb dX8_filled_62 hl (by decide) rfl (fun ls hl => ?_)
  refine lv_iload hx hb dX8_filled_64 (lv_at hl 5 rfl) ?_
  refine lv_bipush (v := (10 : Int32)) hx hb dX8_filled_66 (by decide) ?_
  refine lv_imul hx hb dX8_filled_68 ?_
  obtain ⟨v69, hv, hF⟩ := ob hF
  have hv := vtI hv
  refine vtopi hv ?_
  refine lv_istore (lv' := [(6, .int v69), (5, .int v62), (0, .ref (ad x0)), (1, .int x1), (3, .int x3), (4, .int x4), (7, .int x7), (8, .int x8), (9, .int x9)]) hx hb dX8_filled_69 hl (by decide) rfl (fun ls hl => ?_)
  refine lv_iload hx hb dX8_filled_71 (lv_at hl 6 rfl) ?_
  refine lv_iload hx hb dX8_filled_73 (lv_at hl 7 rfl) ?_
  refine lv_iconst (v := (2 : Int32)) hx hb dX8_filled_75 (by decide) ?_
  refine lv_irem hx hb dX8_filled_76 (by decide) ?_
  refine lv_if_ne (tgt := 85) hx hb dX8_filled_77 (by decide) (fun hc => ?_) (fun hc => ?_)
  · have hF := oi_f hc hF
    refine lv_iconst (v := (3 : Int32)) hx hb dX8_filled_85 (by decide) ?_
    refine lv_iload hx hb dX8_filled_86 (lv_at hl 8 rfl) ?_
    refine lv_imul hx hb dX8_filled_88 ?_
    exact wX8_filled_89 ad A C0 M hr hF (lv_sub hl [2, 3, 4, 5, 1, 0, 7] rfl) Kr Kh0
  · have hF := oi_t hc hF
    refine lv_iload hx hb dX8_filled_80 (lv_at hl 8 rfl) ?_
    refine lv_goto (tgt := 89) hx hb dX8_filled_82 (by decide) ?_
    exact wX8_filled_89 ad A C0 M hr hF (lv_sub hl [2, 3, 4, 5, 1, 0, 7] rfl) Kr Kh0
set_option maxHeartbeats 4000000 in
set_option maxRecDepth 100000 in
theorem wX8_filled_145 {p : Program} {l : Launch} {e : Env} {s : State} {m : MethodId} {args : Array Value} {below : List Frame} {meth : Method} {c : Code} {D : va_G} {cy : Nat → ClassId} (ad : Nat → Nat) (A : Nat → Prop) {S : MS} {r : Int32} {out : ((Nat × Int32 × Int32 × Int32 × Int32 × Int32 × Int32 × Int32) ⊕ Int32)} {ls : Array Slot} {x5 : Int32} {x7 : Int32} (C0 : CX p s m args meth c RX8 cX8_filled 10 D cy) (M : MW D cy ad A S s.heap) (hr : meth.sig.returnType = some .int) (hF : bX8_filled_145 S x5 x7 = some out) (hl : lv_has ls 10 [(5, .int x5), (7, .int x7)]) (Kr : ∀ r9, out = .inr r9 → r9 = r) (Kh0 : ∀ (y0 : Nat) (y1 : Int32) (y2 : Int32) (y3 : Int32) (y4 : Int32) (y5 : Int32) (y6 : Int32) (y7 : Int32), out = .inl (y0, y1, y2, y3, y4, y5, y6, y7) → ∀ (ls1 : Array Slot), lv_has ls1 10 [(0, .ref (ad y0)), (1, .int y1), (3, .int y2), (4, .int y3), (5, .int y4), (6, .int y5), (7, .int y6), (8, .int y7)] → W p l e rmX8_filled s m args below meth c s.heap [] 0 0 (MQ below (QcS (some (.int r))) args s 0 0 (fun _ => False)) (F0 m 19 ls1 [])) : W p l e rmX8_filled s m args below meth c s.heap [] 0 0 (MQ below (QcS (some (.int r))) args s 0 0 (fun _ => False)) (F0 m 145 ls []) := by
  unfold bX8_filled_145 at hF
  obtain ⟨hx, hb, -, hown, -, hts, -⟩ := id C0
  refine lv_bipush (v := (10 : Int32)) hx hb dX8_filled_145 (by decide) ?_
  refine lv_iload hx hb dX8_filled_147 (lv_at hl 0 rfl) ?_
  refine lv_imul hx hb dX8_filled_149 ?_
  refine lv_iload hx hb dX8_filled_150 (lv_at hl 1 rfl) ?_
  refine lv_bipush (v := (10 : Int32)) hx hb dX8_filled_152 (by decide) ?_
  refine lv_irem hx hb dX8_filled_154 (by decide) ?_
  refine lv_iadd hx hb dX8_filled_155 ?_
  obtain rfl := (Kr _ (Option.some.inj hF).symm)
  exact rt_SI C0 hr dX8_filled_156
set_option maxHeartbeats 4000000 in
set_option maxRecDepth 100000 in
theorem wX8_filled_128 {p : Program} {l : Launch} {e : Env} {s : State} {m : MethodId} {args : Array Value} {below : List Frame} {meth : Method} {c : Code} {D : va_G} {cy : Nat → ClassId} (ad : Nat → Nat) (A : Nat → Prop) {S : MS} {r : Int32} {out : ((Nat × Int32 × Int32 × Int32 × Int32 × Int32 × Int32 × Int32) ⊕ Int32)} {ls : Array Slot} {x1 : Int32} {x5 : Int32} {x7 : Int32} (C0 : CX p s m args meth c RX8 cX8_filled 10 D cy) (M : MW D cy ad A S s.heap) (hr : meth.sig.returnType = some .int) (hF : bX8_filled_128 S x1 x5 x7 = some out) (hl : lv_has ls 10 [(1, .int x1), (5, .int x5), (7, .int x7)]) (Kr : ∀ r9, out = .inr r9 → r9 = r) (Kh0 : ∀ (y0 : Nat) (y1 : Int32) (y2 : Int32) (y3 : Int32) (y4 : Int32) (y5 : Int32) (y6 : Int32) (y7 : Int32), out = .inl (y0, y1, y2, y3, y4, y5, y6, y7) → ∀ (ls1 : Array Slot), lv_has ls1 10 [(0, .ref (ad y0)), (1, .int y1), (3, .int y2), (4, .int y3), (5, .int y4), (6, .int y5), (7, .int y6), (8, .int y7)] → W p l e rmX8_filled s m args below meth c s.heap [] 0 0 (MQ below (QcS (some (.int r))) args s 0 0 (fun _ => False)) (F0 m 19 ls1 [])) : W p l e rmX8_filled s m args below meth c s.heap [] 0 0 (MQ below (QcS (some (.int r))) args s 0 0 (fun _ => False)) (F0 m 128 ls []) := by
  unfold bX8_filled_128 at hF
  obtain ⟨hx, hb, -, hown, -, hts, -⟩ := id C0
  refine lv_iload_n hx hb dX8_filled_128 rfl (lv_at hl 0 rfl) ?_
  refine lv_if_ne (tgt := 145) hx hb dX8_filled_129 (by decide) (fun hc => ?_) (fun hc => ?_)
  · have hF := oi_f hc hF
    exact wX8_filled_145 ad A C0 M hr hF (lv_sub hl [1, 2] rfl) Kr Kh0
  · have hF := oi_t hc hF
    refine lv_iload hx hb dX8_filled_132 (lv_at hl 1 rfl) ?_
    refine lv_bipush (v := (100 : Int32)) hx hb dX8_filled_134 (by decide) ?_
    refine lv_idiv hx hb dX8_filled_136 (by decide) ?_
    refine lv_bipush (v := (36 : Int32)) hx hb dX8_filled_137 (by decide) ?_
    refine lv_icmp_le (tgt := 145) hx hb dX8_filled_139 (by decide) (fun hc => ?_) (fun hc => ?_)
    · have hF := oi_t hc hF
      exact wX8_filled_145 ad A C0 M hr hF (lv_sub hl [1, 2] rfl) Kr Kh0
    · have hF := oi_f hc hF
      refine lv_bipush (v := (-9 : Int32)) hx hb dX8_filled_142 (by decide) ?_
      obtain rfl := (Kr _ (Option.some.inj hF).symm)
      exact rt_SI C0 hr dX8_filled_144
set_option maxHeartbeats 4000000 in
set_option maxRecDepth 100000 in
theorem wX8_filled_19 {p : Program} {l : Launch} {e : Env} {s : State} {m : MethodId} {args : Array Value} {below : List Frame} {meth : Method} {c : Code} {D : va_G} {cy : Nat → ClassId} (ad : Nat → Nat) (A : Nat → Prop) {S : MS} {r : Int32} {out : ((Nat × Int32 × Int32 × Int32 × Int32 × Int32 × Int32 × Int32) ⊕ Int32)} {ls : Array Slot} {x0 : Nat} {x1 : Int32} {x3 : Int32} {x4 : Int32} {x5 : Int32} {x6 : Int32} {x7 : Int32} {x8 : Int32} (C0 : CX p s m args meth c RX8 cX8_filled 10 D cy) (M : MW D cy ad A S s.heap) (hr : meth.sig.returnType = some .int) (hF : bX8_filled_19 S x0 x1 x3 x4 x5 x6 x7 x8 = some out) (hl : lv_has ls 10 [(0, .ref (ad x0)), (1, .int x1), (3, .int x3), (4, .int x4), (5, .int x5), (6, .int x6), (7, .int x7), (8, .int x8)]) (Kr : ∀ r9, out = .inr r9 → r9 = r) (Kh0 : ∀ (y0 : Nat) (y1 : Int32) (y2 : Int32) (y3 : Int32) (y4 : Int32) (y5 : Int32) (y6 : Int32) (y7 : Int32), out = .inl (y0, y1, y2, y3, y4, y5, y6, y7) → ∀ (ls1 : Array Slot), lv_has ls1 10 [(0, .ref (ad y0)), (1, .int y1), (3, .int y2), (4, .int y3), (5, .int y4), (6, .int y5), (7, .int y6), (8, .int y7)] → W p l e rmX8_filled s m args below meth c s.heap [] 0 0 (MQ below (QcS (some (.int r))) args s 0 0 (fun _ => False)) (F0 m 19 ls1 [])) : W p l e rmX8_filled s m args below meth c s.heap [] 0 0 (MQ below (QcS (some (.int r))) args s 0 0 (fun _ => False)) (F0 m 19 ls []) := by
  unfold bX8_filled_19 at hF
  obtain ⟨hx, hb, -, hown, -, hts, -⟩ := id C0
  refine lv_iload hx hb dX8_filled_19 (lv_at hl 7 rfl) ?_
  refine lv_if_lt (tgt := 98) hx hb dX8_filled_21 (by decide) (fun hc => ?_) (fun hc => ?_)
  · have hF := oi_t hc hF
    refine lv_aload_n hx hb dX8_filled_98 rfl (lv_at hl 0 rfl) ?_
    obtain ⟨v99, hv, hF⟩ := ob hF
    refine k_getP C0 M hv fl_X8_24 dX8_filled_99 ?_
    refine lv_iload_n hx hb dX8_filled_102 rfl (lv_at hl 2 rfl) ?_
    refine lv_iconst (v := (5 : Int32)) hx hb dX8_filled_103 (by decide) ?_
    refine lv_iadd hx hb dX8_filled_104 ?_
    refine lv_iconst (v := (1 : Int32)) hx hb dX8_filled_105 (by decide) ?_
    refine lv_isub hx hb dX8_filled_106 ?_
    obtain ⟨v107, hv, hF⟩ := ob hF
    refine k_ld C0 M hv dX8_filled_107 ?_
    refine lv_istore (lv' := [(8, .int v107), (0, .ref (ad x0)), (1, .int x1), (3, .int x3), (4, .int x4), (5, .int x5), (6, .int x6), (7, .int x7)]) hx hb dX8_filled_108 hl (by decide) rfl (fun ls hl => ?_)
    refine lv_iload hx hb dX8_filled_110 (lv_at hl 0 rfl) ?_
    refine lv_if_lt (tgt := 128) hx hb dX8_filled_112 (by decide) (fun hc => ?_) (fun hc => ?_)
    · have hF := oi_t hc hF
      exact wX8_filled_128 ad A C0 M hr hF (lv_sub hl [2, 5, 7] rfl) Kr Kh0
    · have hF := oi_f hc hF
      refine lv_iload hx hb dX8_filled_115 (lv_at hl 0 rfl) ?_
      refine lv_iload hx hb dX8_filled_117 (lv_at hl 7 rfl) ?_
      refine lv_bipush (v := (10 : Int32)) hx hb dX8_filled_119 (by decide) ?_
      refine lv_irem hx hb dX8_filled_121 (by decide) ?_
      refine lv_icmp_eq (tgt := 128) hx hb dX8_filled_122 (by decide) (fun hc => ?_) (fun hc => ?_)
      · have hF := oi_t hc hF
        exact wX8_filled_128 ad A C0 M hr hF (lv_sub hl [2, 5, 7] rfl) Kr Kh0
      · have hF := oi_f hc hF
        refine lv_bipush (v := (-9 : Int32)) hx hb dX8_filled_125 (by decide) ?_
        obtain rfl := (Kr _ (Option.some.inj hF).symm)
        exact rt_SI C0 hr dX8_filled_127
  · have hF := oi_f hc hF
    refine lv_aload_n hx hb dX8_filled_24 rfl (lv_at hl 0 rfl) ?_
    obtain ⟨v25, hv, hF⟩ := ob hF
    refine k_getP C0 M hv fl_X8_24 dX8_filled_25 ?_
    refine lv_iload_n hx hb dX8_filled_28 rfl (lv_at hl 2 rfl) ?_
    refine lv_iload hx hb dX8_filled_29 (lv_at hl 7 rfl) ?_
    refine lv_iadd hx hb dX8_filled_31 ?_
    obtain ⟨v32, hv, hF⟩ := ob hF
    refine k_ld C0 M hv dX8_filled_32 ?_
    refine lv_istore (lv' := [(9, .int v32), (0, .ref (ad x0)), (1, .int x1), (3, .int x3), (4, .int x4), (5, .int x5), (6, .int x6), (7, .int x7), (8, .int x8)]) hx hb dX8_filled_33 hl (by decide) rfl (fun ls hl => ?_)
    refine lv_iload hx hb dX8_filled_35 (lv_at hl 0 rfl) ?_
    refine lv_if_ge (tgt := 54) hx hb dX8_filled_37 (by decide) (fun hc => ?_) (fun hc => ?_)
    · have hF := oi_t hc hF
      exact wX8_filled_54 ad A C0 M hr hF (lv_sub hl [1, 2, 3, 4, 5, 6, 7, 8, 0] rfl) Kr Kh0
    · have hF := oi_f hc hF
      refine lv_iload hx hb dX8_filled_40 (lv_at hl 4 rfl) ?_
      refine lv_bipush (v := (10 : Int32)) hx hb dX8_filled_42 (by decide) ?_
      refine lv_irem hx hb dX8_filled_44 (by decide) ?_
      obtain ⟨v45, hv, hF⟩ := ob hF
      have hv := vtI hv
      refine vtopi hv ?_
      refine lv_istore (lv' := [(9, .int v45), (0, .ref (ad x0)), (1, .int x1), (3, .int x3), (4, .int x4), (5, .int x5), (6, .int x6), (7, .int x7), (8, .int x8)]) hx hb dX8_filled_45 hl (by decide) rfl (fun ls hl => ?_)
      refine lv_iload hx hb dX8_filled_47 (lv_at hl 4 rfl) ?_
      refine lv_bipush (v := (10 : Int32)) hx hb dX8_filled_49 (by decide) ?_
      refine lv_idiv hx hb dX8_filled_51 (by decide) ?_
      obtain ⟨v52, hv, hF⟩ := ob hF
      have hv := vtI hv
      refine vtopi hv ?_
      refine lv_istore (lv' := [(4, .int v52), (9, .int v45), (0, .ref (ad x0)), (1, .int x1), (3, .int x3), (5, .int x5), (6, .int x6), (7, .int x7), (8, .int x8)]) hx hb dX8_filled_52 hl (by decide) rfl (fun ls hl => ?_)
      exact wX8_filled_54 ad A C0 M hr hF (lv_sub hl [2, 3, 4, 0, 5, 6, 7, 8, 1] rfl) Kr Kh0
set_option maxHeartbeats 4000000 in
set_option maxRecDepth 100000 in
theorem tX8_filled (l : Launch) (D : va_G) (cy : Nat → ClassId) (ad : Nat → Nat) (A : Nat → Prop) {S : MS} {a0 : Nat} {a1 : Int32} {a2 : Int32} {r : Int32} (h : fX8_filled S a0 a1 a2 = some r) : Met l yX8_filled [Cond.code yX8_filled cX8_filled 10 (some .int)] rmX8_filled (PcR D cy ad A S [.ref (ad a0), .int a1, .int a2]) (QcS (some (.int r))) 0 0 (fun _ => False) := by
  refine met_R (by decide +kernel) cw_X8_filled (Nat.le_of_ble_eq_true rfl) ?_
  intro p e s m args below meth c ls C0 M hr hl
  have hl : lv_has ls 10 [(0, .ref (ad a0)), (1, .int a1), (2, .int a2)] := hl
  have key := lim_walk (step := sX8_filled S) (fun (q : (Nat × Int32 × Int32 × Int32 × Int32 × Int32 × Int32 × Int32)) (r9 : Int32) => ∀ (r : Int32), r9 = r → ((∀ (y0 : Nat) (y1 : Int32) (y2 : Int32) (y3 : Int32) (y4 : Int32) (y5 : Int32) (y6 : Int32) (y7 : Int32), q = (y0, y1, y2, y3, y4, y5, y6, y7) → ∀ (ls1 : Array Slot), lv_has ls1 10 [(0, .ref (ad y0)), (1, .int y1), (3, .int y2), (4, .int y3), (5, .int y4), (6, .int y5), (7, .int y6), (8, .int y7)] → W p l e rmX8_filled s m args below meth c s.heap [] 0 0 (MQ below (QcS (some (.int r))) args s 0 0 (fun _ => False)) (F0 m 19 ls1 [])))) ?_
  · unfold fX8_filled at h
    cases hs0 : bX8_filled_0 S a0 a1 a2 with
    | none => rw [hs0] at h; cases h
    | some out =>
      rw [hs0] at h
      refine wX8_filled_0 ad A C0 M hr hs0 hl (fun r9 hr9 => ?_) ?_
      · subst hr9; exact Option.some.inj h
      · intro y0 y1 y2 y3 y4 y5 y6 y7 hq; subst hq; exact (key _ _ h _ rfl) _ _ _ _ _ _ _ _ rfl
  · intro q r9 out hst hre hin9
    intro r er; subst er
    refine ?_
    · intro y0 y1 y2 y3 y4 y5 y6 y7 hq ls1 hl
      subst hq
      exact wX8_filled_19 ad A C0 M hr hst hl hre (fun k0 k1 k2 k3 k4 k5 k6 k7 hk => (hin9 _ hk _ rfl) _ _ _ _ _ _ _ _ rfl)
set_option maxHeartbeats 4000000 in
set_option maxRecDepth 100000 in
theorem wX8_nearestPress_0 {p : Program} {l : Launch} {e : Env} {s : State} {m : MethodId} {args : Array Value} {below : List Frame} {meth : Method} {c : Code} {D : va_G} {cy : Nat → ClassId} (ad : Nat → Nat) (A : Nat → Prop) {S : MS} {r : Int32} {out : ((Nat × Int32 × Int32 × Int32 × Int32 × Int32) ⊕ Int32)} {ls : Array Slot} {x0 : Nat} {x1 : Int32} (C0 : CX p s m args meth c RX8 cX8_nearestPress 8 D cy) (M : MW D cy ad A S s.heap) (hr : meth.sig.returnType = some .int) (hF : bX8_nearestPress_0 S x0 x1 = some out) (hl : lv_has ls 8 [(0, .ref (ad x0)), (1, .int x1)]) (Kr : ∀ r9, out = .inr r9 → r9 = r) (Kh0 : ∀ (y0 : Nat) (y1 : Int32) (y2 : Int32) (y3 : Int32) (y4 : Int32) (y5 : Int32), out = .inl (y0, y1, y2, y3, y4, y5) → ∀ (ls1 : Array Slot), lv_has ls1 8 [(0, .ref (ad y0)), (1, .int y1), (2, .int y2), (3, .int y3), (4, .int y4), (5, .int y5)] → W p l e rmX8_nearestPress s m args below meth c s.heap [] 0 0 (MQ below (QcS (some (.int r))) args s 0 0 (fun _ => False)) (F0 m 15 ls1 [])) : W p l e rmX8_nearestPress s m args below meth c s.heap [] 0 0 (MQ below (QcS (some (.int r))) args s 0 0 (fun _ => False)) (F0 m 0 ls []) := by
  unfold bX8_nearestPress_0 at hF
  obtain ⟨hx, hb, -, hown, -, hts, -⟩ := id C0
  refine lv_bipush (v := (-9 : Int32)) hx hb dX8_nearestPress_0 (by decide) ?_
  refine lv_istore_n (lv' := [(2, .int (-9 : Int32)), (0, .ref (ad x0)), (1, .int x1)]) hx hb dX8_nearestPress_2 rfl hl (by decide) rfl (fun ls hl => ?_)
  refine lv_iconst (v := (0 : Int32)) hx hb dX8_nearestPress_3 (by decide) ?_
  refine lv_istore_n (lv' := [(3, .int (0 : Int32)), (2, .int (-9 : Int32)), (0, .ref (ad x0)), (1, .int x1)]) hx hb dX8_nearestPress_4 rfl hl (by decide) rfl (fun ls hl => ?_)
  refine lv_aload_n hx hb dX8_nearestPress_5 rfl (lv_at hl 2 rfl) ?_
  refine lv_iconst (v := (1 : Int32)) hx hb dX8_nearestPress_6 (by decide) ?_
  obtain ⟨_, hrec, hF⟩ := ob hF
  obtain ⟨v7, hcl, hF⟩ := ob hF
  refine go_SI (r_V (rest := []) (As := [.int (1 : Int32)]) C0 cb_X8_35 M hrec (tX8_countFillings l D cy ad A hcl) (pre_R C0 M) hl dX8_nearestPress_7 rfl (Nat.le_of_ble_eq_true rfl) ⟨rfl, rfl⟩ ⟨Nat.le_of_ble_eq_true rfl, Nat.le_of_ble_eq_true rfl⟩ ⟨Nat.le_of_ble_eq_true rfl, Nat.le_of_ble_eq_true rfl⟩ rfl) ?_
  refine lv_istore (lv' := [(4, .int v7), (3, .int (0 : Int32)), (2, .int (-9 : Int32)), (0, .ref (ad x0)), (1, .int x1)]) hx hb dX8_nearestPress_10 hl (by decide) rfl (fun ls hl => ?_)
  refine lv_iconst (v := (0 : Int32)) hx hb dX8_nearestPress_12 (by decide) ?_
  refine lv_istore (lv' := [(5, .int (0 : Int32)), (4, .int v7), (3, .int (0 : Int32)), (2, .int (-9 : Int32)), (0, .ref (ad x0)), (1, .int x1)]) hx hb dX8_nearestPress_13 hl (by decide) rfl (fun ls hl => ?_)
  exact Kh0 _ _ _ _ _ _ (Option.some.inj hF).symm _ (lv_sub hl [4, 5, 3, 2, 1, 0] rfl)
set_option maxHeartbeats 4000000 in
set_option maxRecDepth 100000 in
theorem wX8_nearestPress_69 {p : Program} {l : Launch} {e : Env} {s : State} {m : MethodId} {args : Array Value} {below : List Frame} {meth : Method} {c : Code} {D : va_G} {cy : Nat → ClassId} (ad : Nat → Nat) (A : Nat → Prop) {S : MS} {r : Int32} {out : ((Nat × Int32 × Int32 × Int32 × Int32 × Int32) ⊕ Int32)} {ls : Array Slot} {x0 : Nat} {x1 : Int32} {x2 : Int32} {x3 : Int32} {x4 : Int32} {x5 : Int32} (C0 : CX p s m args meth c RX8 cX8_nearestPress 8 D cy) (M : MW D cy ad A S s.heap) (hr : meth.sig.returnType = some .int) (hF : bX8_nearestPress_69 S x0 x1 x2 x3 x4 x5 = some out) (hl : lv_has ls 8 [(0, .ref (ad x0)), (1, .int x1), (2, .int x2), (3, .int x3), (4, .int x4), (5, .int x5)]) (Kr : ∀ r9, out = .inr r9 → r9 = r) (Kh0 : ∀ (y0 : Nat) (y1 : Int32) (y2 : Int32) (y3 : Int32) (y4 : Int32) (y5 : Int32), out = .inl (y0, y1, y2, y3, y4, y5) → ∀ (ls1 : Array Slot), lv_has ls1 8 [(0, .ref (ad y0)), (1, .int y1), (2, .int y2), (3, .int y3), (4, .int y4), (5, .int y5)] → W p l e rmX8_nearestPress s m args below meth c s.heap [] 0 0 (MQ below (QcS (some (.int r))) args s 0 0 (fun _ => False)) (F0 m 15 ls1 [])) : W p l e rmX8_nearestPress s m args below meth c s.heap [] 0 0 (MQ below (QcS (some (.int r))) args s 0 0 (fun _ => False)) (F0 m 69 ls []) := by
  unfold bX8_nearestPress_69 at hF
  obtain ⟨hx, hb, -, hown, -, hts, -⟩ := id C0
  obtain ⟨v69, hv, hF⟩ := ob hF
  refine lv_iinc (v := v69) (lv' := [(5, .int v69), (0, .ref (ad x0)), (1, .int x1), (2, .int x2), (3, .int x3), (4, .int x4)]) hx hb dX8_nearestPress_69 hl (k := 5) rfl (by rw [← vtI hv]; rfl) (by decide) rfl (fun ls hl => ?_)
  refine lv_goto (tgt := 15) hx hb dX8_nearestPress_72 (by decide) ?_
  exact Kh0 _ _ _ _ _ _ (Option.some.inj hF).symm _ (lv_sub hl [1, 2, 3, 4, 5, 0] rfl)
set_option maxHeartbeats 4000000 in
set_option maxRecDepth 100000 in
theorem wX8_nearestPress_63 {p : Program} {l : Launch} {e : Env} {s : State} {m : MethodId} {args : Array Value} {below : List Frame} {meth : Method} {c : Code} {D : va_G} {cy : Nat → ClassId} (ad : Nat → Nat) (A : Nat → Prop) {S : MS} {r : Int32} {out : ((Nat × Int32 × Int32 × Int32 × Int32 × Int32) ⊕ Int32)} {ls : Array Slot} {x0 : Nat} {x1 : Int32} {x4 : Int32} {x5 : Int32} {x6 : Int32} {x7 : Int32} (C0 : CX p s m args meth c RX8 cX8_nearestPress 8 D cy) (M : MW D cy ad A S s.heap) (hr : meth.sig.returnType = some .int) (hF : bX8_nearestPress_63 S x0 x1 x4 x5 x6 x7 = some out) (hl : lv_has ls 8 [(0, .ref (ad x0)), (1, .int x1), (4, .int x4), (5, .int x5), (6, .int x6), (7, .int x7)]) (Kr : ∀ r9, out = .inr r9 → r9 = r) (Kh0 : ∀ (y0 : Nat) (y1 : Int32) (y2 : Int32) (y3 : Int32) (y4 : Int32) (y5 : Int32), out = .inl (y0, y1, y2, y3, y4, y5) → ∀ (ls1 : Array Slot), lv_has ls1 8 [(0, .ref (ad y0)), (1, .int y1), (2, .int y2), (3, .int y3), (4, .int y4), (5, .int y5)] → W p l e rmX8_nearestPress s m args below meth c s.heap [] 0 0 (MQ below (QcS (some (.int r))) args s 0 0 (fun _ => False)) (F0 m 15 ls1 [])) : W p l e rmX8_nearestPress s m args below meth c s.heap [] 0 0 (MQ below (QcS (some (.int r))) args s 0 0 (fun _ => False)) (F0 m 63 ls []) := by
  unfold bX8_nearestPress_63 at hF
  obtain ⟨hx, hb, -, hown, -, hts, -⟩ := id C0
  refine lv_iload hx hb dX8_nearestPress_63 (lv_at hl 4 rfl) ?_
  refine lv_istore_n (lv' := [(2, .int x6), (0, .ref (ad x0)), (1, .int x1), (4, .int x4), (5, .int x5), (6, .int x6), (7, .int x7)]) hx hb dX8_nearestPress_65 rfl hl (by decide) rfl (fun ls hl => ?_)
  refine lv_iload hx hb dX8_nearestPress_66 (lv_at hl 6 rfl) ?_
  refine lv_istore_n (lv' := [(3, .int x7), (2, .int x6), (0, .ref (ad x0)), (1, .int x1), (4, .int x4), (5, .int x5), (6, .int x6), (7, .int x7)]) hx hb dX8_nearestPress_68 rfl hl (by decide) rfl (fun ls hl => ?_)
  exact wX8_nearestPress_69 ad A C0 M hr hF (lv_sub hl [2, 3, 1, 0, 4, 5] rfl) Kr Kh0
set_option maxHeartbeats 4000000 in
set_option maxRecDepth 100000 in
theorem wX8_nearestPress_15 {p : Program} {l : Launch} {e : Env} {s : State} {m : MethodId} {args : Array Value} {below : List Frame} {meth : Method} {c : Code} {D : va_G} {cy : Nat → ClassId} (ad : Nat → Nat) (A : Nat → Prop) {S : MS} {r : Int32} {out : ((Nat × Int32 × Int32 × Int32 × Int32 × Int32) ⊕ Int32)} {ls : Array Slot} {x0 : Nat} {x1 : Int32} {x2 : Int32} {x3 : Int32} {x4 : Int32} {x5 : Int32} (C0 : CX p s m args meth c RX8 cX8_nearestPress 8 D cy) (M : MW D cy ad A S s.heap) (hr : meth.sig.returnType = some .int) (hF : bX8_nearestPress_15 S x0 x1 x2 x3 x4 x5 = some out) (hl : lv_has ls 8 [(0, .ref (ad x0)), (1, .int x1), (2, .int x2), (3, .int x3), (4, .int x4), (5, .int x5)]) (Kr : ∀ r9, out = .inr r9 → r9 = r) (Kh0 : ∀ (y0 : Nat) (y1 : Int32) (y2 : Int32) (y3 : Int32) (y4 : Int32) (y5 : Int32), out = .inl (y0, y1, y2, y3, y4, y5) → ∀ (ls1 : Array Slot), lv_has ls1 8 [(0, .ref (ad y0)), (1, .int y1), (2, .int y2), (3, .int y3), (4, .int y4), (5, .int y5)] → W p l e rmX8_nearestPress s m args below meth c s.heap [] 0 0 (MQ below (QcS (some (.int r))) args s 0 0 (fun _ => False)) (F0 m 15 ls1 [])) : W p l e rmX8_nearestPress s m args below meth c s.heap [] 0 0 (MQ below (QcS (some (.int r))) args s 0 0 (fun _ => False)) (F0 m 15 ls []) := by
  unfold bX8_nearestPress_15 at hF
  obtain ⟨hx, hb, -, hown, -, hts, -⟩ := id C0
  refine lv_iload hx hb dX8_nearestPress_15 (lv_at hl 5 rfl) ?_
  refine lv_iload hx hb dX8_nearestPress_17 (lv_at hl 4 rfl) ?_
  refine lv_icmp_ge (tgt := 75) hx hb dX8_nearestPress_19 (by decide) (fun hc => ?_) (fun hc => ?_)
  · have hF := oi_t hc hF
    refine lv_iload_n hx hb dX8_nearestPress_75 rfl (lv_at hl 2 rfl) ?_
    obtain rfl := (Kr _ (Option.some.inj hF).symm)
    exact rt_SI C0 hr dX8_nearestPress_76
  · have hF := oi_f hc hF
    refine lv_aload_n hx hb dX8_nearestPress_22 rfl (lv_at hl 0 rfl) ?_
    refine lv_iconst (v := (1 : Int32)) hx hb dX8_nearestPress_23 (by decide) ?_
    refine lv_iload hx hb dX8_nearestPress_24 (lv_at hl 5 rfl) ?_
    obtain ⟨_, hrec, hF⟩ := ob hF
    obtain ⟨v26, hcl, hF⟩ := ob hF
    refine go_SI (r_V (rest := []) (As := [.int (1 : Int32), .int x5]) C0 cb_X8_38 M hrec (tX8_filled l D cy ad A hcl) (pre_R C0 M) hl dX8_nearestPress_26 rfl (Nat.le_of_ble_eq_true rfl) ⟨rfl, rfl⟩ ⟨Nat.le_of_ble_eq_true rfl, Nat.le_of_ble_eq_true rfl⟩ ⟨Nat.le_of_ble_eq_true rfl, Nat.le_of_ble_eq_true rfl⟩ rfl) ?_
    refine lv_istore (lv' := [(6, .int v26), (0, .ref (ad x0)), (1, .int x1), (2, .int x2), (3, .int x3), (4, .int x4), (5, .int x5)]) hx hb dX8_nearestPress_29 hl (by decide) rfl (fun ls hl => ?_)
    refine lv_iload hx hb dX8_nearestPress_31 (lv_at hl 0 rfl) ?_
    refine lv_bipush (v := (-9 : Int32)) hx hb dX8_nearestPress_33 (by decide) ?_
    refine lv_icmp_eq (tgt := 69) hx hb dX8_nearestPress_35 (by decide) (fun hc => ?_) (fun hc => ?_)
    · have hF := oi_t hc hF
      exact wX8_nearestPress_69 ad A C0 M hr hF (lv_sub hl [1, 2, 3, 4, 5, 6] rfl) Kr Kh0
    · have hF := oi_f hc hF
      refine lv_aload_n hx hb dX8_nearestPress_38 rfl (lv_at hl 1 rfl) ?_
      refine lv_iload hx hb dX8_nearestPress_39 (lv_at hl 0 rfl) ?_
      obtain ⟨_, hrec, hF⟩ := ob hF
      obtain ⟨v41, hcl, hF⟩ := ob hF
      refine go_SI (r_V (rest := []) (As := [.int v26]) C0 cb_X8_42 M hrec (tX8_levelOf l D cy ad A hcl) (pre_R C0 M) hl dX8_nearestPress_41 rfl (Nat.le_of_ble_eq_true rfl) ⟨rfl, rfl⟩ ⟨Nat.le_of_ble_eq_true rfl, Nat.le_of_ble_eq_true rfl⟩ ⟨Nat.le_of_ble_eq_true rfl, Nat.le_of_ble_eq_true rfl⟩ rfl) ?_
      refine lv_iload_n hx hb dX8_nearestPress_44 rfl (lv_at hl 2 rfl) ?_
      refine lv_isub hx hb dX8_nearestPress_45 ?_
      obtain ⟨v46, hcl, hF⟩ := ob hF
      refine go_SI (r_S (rest := []) (As := [.int (v41 - x1)]) C0 cb_X8_45 (tJ9_abs_0f7a4 l D cy ad hcl) (pre_S C0) hl dX8_nearestPress_46 rfl (Nat.le_of_ble_eq_true rfl) ⟨rfl, rfl⟩ ⟨Nat.le_of_ble_eq_true rfl, Nat.le_of_ble_eq_true rfl⟩ ⟨Nat.le_of_ble_eq_true rfl, Nat.le_of_ble_eq_true rfl⟩ rfl) ?_
      refine lv_istore (lv' := [(7, .int v46), (6, .int v26), (0, .ref (ad x0)), (1, .int x1), (2, .int x2), (3, .int x3), (4, .int x4), (5, .int x5)]) hx hb dX8_nearestPress_49 hl (by decide) rfl (fun ls hl => ?_)
      refine lv_iload_n hx hb dX8_nearestPress_51 rfl (lv_at hl 4 rfl) ?_
      refine lv_bipush (v := (-9 : Int32)) hx hb dX8_nearestPress_52 (by decide) ?_
      refine lv_icmp_eq (tgt := 63) hx hb dX8_nearestPress_54 (by decide) (fun hc => ?_) (fun hc => ?_)
      · have hF := oi_t hc hF
        exact wX8_nearestPress_63 ad A C0 M hr hF (lv_sub hl [2, 3, 6, 7, 1, 0] rfl) Kr Kh0
      · have hF := oi_f hc hF
        refine lv_iload hx hb dX8_nearestPress_57 (lv_at hl 0 rfl) ?_
        refine lv_iload_n hx hb dX8_nearestPress_59 rfl (lv_at hl 5 rfl) ?_
        refine lv_icmp_ge (tgt := 69) hx hb dX8_nearestPress_60 (by decide) (fun hc => ?_) (fun hc => ?_)
        · have hF := oi_t hc hF
          exact wX8_nearestPress_69 ad A C0 M hr hF (lv_sub hl [2, 3, 4, 5, 6, 7] rfl) Kr Kh0
        · have hF := oi_f hc hF
          exact wX8_nearestPress_63 ad A C0 M hr hF (lv_sub hl [2, 3, 6, 7, 1, 0] rfl) Kr Kh0
set_option maxHeartbeats 4000000 in
set_option maxRecDepth 100000 in
theorem tX8_nearestPress (l : Launch) (D : va_G) (cy : Nat → ClassId) (ad : Nat → Nat) (A : Nat → Prop) {S : MS} {a0 : Nat} {a1 : Int32} {r : Int32} (h : fX8_nearestPress S a0 a1 = some r) : Met l yX8_nearestPress [Cond.code yX8_nearestPress cX8_nearestPress 8 (some .int)] rmX8_nearestPress (PcR D cy ad A S [.ref (ad a0), .int a1]) (QcS (some (.int r))) 0 0 (fun _ => False) := by
  refine met_R (by decide +kernel) cw_X8_nearestPress (Nat.le_of_ble_eq_true rfl) ?_
  intro p e s m args below meth c ls C0 M hr hl
  have hl : lv_has ls 8 [(0, .ref (ad a0)), (1, .int a1)] := hl
  have key := lim_walk (step := sX8_nearestPress S) (fun (q : (Nat × Int32 × Int32 × Int32 × Int32 × Int32)) (r9 : Int32) => ∀ (r : Int32), r9 = r → ((∀ (y0 : Nat) (y1 : Int32) (y2 : Int32) (y3 : Int32) (y4 : Int32) (y5 : Int32), q = (y0, y1, y2, y3, y4, y5) → ∀ (ls1 : Array Slot), lv_has ls1 8 [(0, .ref (ad y0)), (1, .int y1), (2, .int y2), (3, .int y3), (4, .int y4), (5, .int y5)] → W p l e rmX8_nearestPress s m args below meth c s.heap [] 0 0 (MQ below (QcS (some (.int r))) args s 0 0 (fun _ => False)) (F0 m 15 ls1 [])))) ?_
  · unfold fX8_nearestPress at h
    cases hs0 : bX8_nearestPress_0 S a0 a1 with
    | none => rw [hs0] at h; cases h
    | some out =>
      rw [hs0] at h
      refine wX8_nearestPress_0 ad A C0 M hr hs0 hl (fun r9 hr9 => ?_) ?_
      · subst hr9; exact Option.some.inj h
      · intro y0 y1 y2 y3 y4 y5 hq; subst hq; exact (key _ _ h _ rfl) _ _ _ _ _ _ rfl
  · intro q r9 out hst hre hin9
    intro r er; subst er
    refine ?_
    · intro y0 y1 y2 y3 y4 y5 hq ls1 hl
      subst hq
      exact wX8_nearestPress_15 ad A C0 M hr hst hl hre (fun k0 k1 k2 k3 k4 k5 hk => (hin9 _ hk _ rfl) _ _ _ _ _ _ rfl)
set_option maxHeartbeats 4000000 in
set_option maxRecDepth 100000 in
theorem wX1_mendedLevel_0 {p : Program} {l : Launch} {e : Env} {s : State} {m : MethodId} {args : Array Value} {below : List Frame} {meth : Method} {c : Code} {D : va_G} {cy : Nat → ClassId} (ad : Nat → Nat) (A : Nat → Prop) {S : MS} {r : Int32} {ls : Array Slot} {x0 : Nat} {x1 : Nat} (C0 : CX p s m args meth c RX1 cX1_mendedLevel 2 D cy) (M : MW D cy ad A S s.heap) (hr : meth.sig.returnType = some .int) (hF : bX1_mendedLevel_0 S x0 x1 = some r) (hl : lv_has ls 2 [(0, .ref (ad x0)), (1, .ref (ad x1))]) : W p l e rmX1_mendedLevel s m args below meth c s.heap [] 0 0 (MQ below (QcS (some (.int r))) args s 0 0 (fun _ => False)) (F0 m 0 ls []) := by
  unfold bX1_mendedLevel_0 at hF
  obtain ⟨hx, hb, -, hown, -, hts, -⟩ := id C0
  refine lv_aload_n hx hb dX1_mendedLevel_0 rfl (lv_at hl 1 rfl) ?_
  refine lv_aload_n hx hb dX1_mendedLevel_1 rfl (lv_at hl 1 rfl) ?_
  refine lv_aload_n hx hb dX1_mendedLevel_2 rfl (lv_at hl 0 rfl) ?_
  refine lv_aload_n hx hb dX1_mendedLevel_3 rfl (lv_at hl 1 rfl) ?_
  obtain ⟨_, hrec, hF⟩ := ob hF
  obtain ⟨v4, hcl, hF⟩ := ob hF
  refine go_SI (r_V (rest := [.ref (ad x1), .ref (ad x1)]) (As := [.ref (ad x1)]) C0 cb_X1_95 M hrec (tX1_guessFor l D cy ad A hcl) (pre_R C0 M) hl dX1_mendedLevel_4 rfl (Nat.le_of_ble_eq_true rfl) ⟨rfl, rfl⟩ ⟨Nat.le_of_ble_eq_true rfl, Nat.le_of_ble_eq_true rfl⟩ ⟨Nat.le_of_ble_eq_true rfl, Nat.le_of_ble_eq_true rfl⟩ rfl) ?_
  obtain ⟨_, hrec, hF⟩ := ob hF
  obtain ⟨v7, hcl, hF⟩ := ob hF
  refine go_SI (r_V (rest := [.ref (ad x1)]) (As := [.int v4]) C0 cb_X1_99 M hrec (tX8_nearestPress l D cy ad A hcl) (pre_R C0 M) hl dX1_mendedLevel_7 rfl (Nat.le_of_ble_eq_true rfl) ⟨rfl, rfl⟩ ⟨Nat.le_of_ble_eq_true rfl, Nat.le_of_ble_eq_true rfl⟩ ⟨Nat.le_of_ble_eq_true rfl, Nat.le_of_ble_eq_true rfl⟩ rfl) ?_
  obtain ⟨_, hrec, hF⟩ := ob hF
  obtain ⟨v10, hcl, hF⟩ := ob hF
  refine go_SI (r_V (rest := []) (As := [.int v7]) C0 cb_X1_73 M hrec (tX8_levelOf l D cy ad A hcl) (pre_R C0 M) hl dX1_mendedLevel_10 rfl (Nat.le_of_ble_eq_true rfl) ⟨rfl, rfl⟩ ⟨Nat.le_of_ble_eq_true rfl, Nat.le_of_ble_eq_true rfl⟩ ⟨Nat.le_of_ble_eq_true rfl, Nat.le_of_ble_eq_true rfl⟩ rfl) ?_
  obtain rfl := (Option.some.inj hF)
  exact rt_SI C0 hr dX1_mendedLevel_13
set_option maxHeartbeats 4000000 in
set_option maxRecDepth 100000 in
theorem tX1_mendedLevel (l : Launch) (D : va_G) (cy : Nat → ClassId) (ad : Nat → Nat) (A : Nat → Prop) {S : MS} {a0 : Nat} {a1 : Nat} {r : Int32} (h : fX1_mendedLevel S a0 a1 = some r) : Met l yX1_mendedLevel [Cond.code yX1_mendedLevel cX1_mendedLevel 2 (some .int)] rmX1_mendedLevel (PcR D cy ad A S [.ref (ad a0), .ref (ad a1)]) (QcS (some (.int r))) 0 0 (fun _ => False) := by
  refine met_R (by decide +kernel) cw_X1_mendedLevel (Nat.le_of_ble_eq_true rfl) ?_
  intro p e s m args below meth c ls C0 M hr hl
  have hl : lv_has ls 2 [(0, .ref (ad a0)), (1, .ref (ad a1))] := hl
  exact wX1_mendedLevel_0 ad A C0 M hr h hl
set_option maxHeartbeats 4000000 in
set_option maxRecDepth 100000 in
theorem wX0_settle_0 {p : Program} {l : Launch} {e : Env} {s : State} {m : MethodId} {args : Array Value} {below : List Frame} {meth : Method} {c : Code} {D : va_G} {cy : Nat → ClassId} (ad : Nat → Nat) (A : Nat → Prop) {S : MS} {S' : MS} {H : Heap} {locs : List Loc} {n0 : Nat} {out : (((Nat × Nat × Int32 × Int32 × MS) ⊕ ((Nat × Nat × Int32 × Int32 × MS) ⊕ (Nat × Nat × Int32 × Int32 × MS))) ⊕ MS)} {ls : Array Slot} {x0 : Nat} {x1 : Nat} (C0 : CX p s m args meth c RX0 cX0_settle 6 D cy) (M : ST D cy ad A s.heap (ZN n0 s.heap.size) S H locs) (hr : meth.sig.returnType = none) (hF : bX0_settle_0 S x0 x1 = some out) (hl : lv_has ls 6 [(0, .ref (ad x0)), (1, .ref (ad x1))]) (Kr : ∀ r9, out = .inr r9 → r9 = S') (Kh0 : ∀ (y0 : Nat) (y1 : Nat) (y2 : Int32) (y3 : Int32) (S2 : MS), out = .inl (.inl (y0, y1, y2, y3, S2)) → ∀ (H1 : Heap) (locs1 : List Loc) (ls1 : Array Slot), ST D cy ad A s.heap (ZN n0 s.heap.size) S2 H1 locs1 → lv_has ls1 6 [(0, .ref (ad y0)), (1, .ref (ad y1)), (2, .int y2), (3, .int y3)] → W p l e rmX0_settle s m args below meth c H1 locs1 0 0 (MQ below (QcM D cy ad A n0 S' (none)) args s 0 0 A) (F0 m 10 ls1 [])) (Kh1 : ∀ (y0 : Nat) (y1 : Nat) (y2 : Int32) (y3 : Int32) (S2 : MS), out = .inl (.inr (.inl (y0, y1, y2, y3, S2))) → ∀ (H1 : Heap) (locs1 : List Loc) (ls1 : Array Slot), ST D cy ad A s.heap (ZN n0 s.heap.size) S2 H1 locs1 → lv_has ls1 6 [(0, .ref (ad y0)), (1, .ref (ad y1)), (2, .int y2), (3, .int y3)] → W p l e rmX0_settle s m args below meth c H1 locs1 0 0 (MQ below (QcM D cy ad A n0 S' (none)) args s 0 0 A) (F0 m 65 ls1 [])) (Kh2 : ∀ (y0 : Nat) (y1 : Nat) (y2 : Int32) (y3 : Int32) (S2 : MS), out = .inl (.inr (.inr (y0, y1, y2, y3, S2))) → ∀ (H1 : Heap) (locs1 : List Loc) (ls1 : Array Slot), ST D cy ad A s.heap (ZN n0 s.heap.size) S2 H1 locs1 → lv_has ls1 6 [(0, .ref (ad y0)), (1, .ref (ad y1)), (3, .int y2), (4, .int y3)] → W p l e rmX0_settle s m args below meth c H1 locs1 0 0 (MQ below (QcM D cy ad A n0 S' (none)) args s 0 0 A) (F0 m 112 ls1 [])) : W p l e rmX0_settle s m args below meth c H locs 0 0 (MQ below (QcM D cy ad A n0 S' (none)) args s 0 0 A) (F0 m 0 ls []) := by
  unfold bX0_settle_0 at hF
  obtain ⟨hx, hb, -, hown, -, hts, -⟩ := id C0
  refine lv_aload_n hx hb dX0_settle_0 rfl (lv_at hl 1 rfl) ?_
  obtain ⟨v1, hv, hF⟩ := ob hF
  refine k_getP C0 M.1 hv fl_X0_44 dX0_settle_1 ?_
  obtain ⟨_, hrec, hF⟩ := ob hF
  obtain ⟨v4, hcl, hF⟩ := ob hF
  refine go_SI (r_V (rest := []) (As := []) C0 cb_X0_50 M.1 hrec (tJx4a65c_size_8abf5 l D cy ad A hcl) (pre_R C0 M.1) hl dX0_settle_4 rfl (Nat.le_of_ble_eq_true rfl) ⟨rfl, rfl⟩ ⟨Nat.le_of_ble_eq_true rfl, Nat.le_of_ble_eq_true rfl⟩ ⟨Nat.le_of_ble_eq_true rfl, Nat.le_of_ble_eq_true rfl⟩ rfl) ?_
  refine lv_istore_n (lv' := [(2, .int v4), (0, .ref (ad x0)), (1, .ref (ad x1))]) hx hb dX0_settle_7 rfl hl (by decide) rfl (fun ls hl => ?_)
  refine lv_iconst (v := (0 : Int32)) hx hb dX0_settle_8 (by decide) ?_
  refine lv_istore_n (lv' := [(3, .int (0 : Int32)), (2, .int v4), (0, .ref (ad x0)), (1, .ref (ad x1))]) hx hb dX0_settle_9 rfl hl (by decide) rfl (fun ls hl => ?_)
  exact Kh0 _ _ _ _ _ (Option.some.inj hF).symm _ _ _ M (lv_sub hl [2, 3, 1, 0] rfl)
set_option maxHeartbeats 4000000 in
set_option maxRecDepth 100000 in
theorem wX0_settle_56 {p : Program} {l : Launch} {e : Env} {s : State} {m : MethodId} {args : Array Value} {below : List Frame} {meth : Method} {c : Code} {D : va_G} {cy : Nat → ClassId} (ad : Nat → Nat) (A : Nat → Prop) {S : MS} {S' : MS} {H : Heap} {locs : List Loc} {n0 : Nat} {out : (((Nat × Nat × Int32 × Int32 × MS) ⊕ ((Nat × Nat × Int32 × Int32 × MS) ⊕ (Nat × Nat × Int32 × Int32 × MS))) ⊕ MS)} {ls : Array Slot} {x0 : Nat} {x1 : Nat} {x2 : Int32} {x3 : Int32} {z0 : Nat} {z1 : Int32} {z2 : Int32} (C0 : CX p s m args meth c RX0 cX0_settle 6 D cy) (M : ST D cy ad A s.heap (ZN n0 s.heap.size) S H locs) (hr : meth.sig.returnType = none) (hF : bX0_settle_56 S x0 x1 x2 x3 z0 z1 z2 = some out) (hl : lv_has ls 6 [(0, .ref (ad x0)), (1, .ref (ad x1)), (2, .int x2), (3, .int x3)]) (Kr : ∀ r9, out = .inr r9 → r9 = S') (Kh0 : ∀ (y0 : Nat) (y1 : Nat) (y2 : Int32) (y3 : Int32) (S2 : MS), out = .inl (.inl (y0, y1, y2, y3, S2)) → ∀ (H1 : Heap) (locs1 : List Loc) (ls1 : Array Slot), ST D cy ad A s.heap (ZN n0 s.heap.size) S2 H1 locs1 → lv_has ls1 6 [(0, .ref (ad y0)), (1, .ref (ad y1)), (2, .int y2), (3, .int y3)] → W p l e rmX0_settle s m args below meth c H1 locs1 0 0 (MQ below (QcM D cy ad A n0 S' (none)) args s 0 0 A) (F0 m 10 ls1 [])) (Kh1 : ∀ (y0 : Nat) (y1 : Nat) (y2 : Int32) (y3 : Int32) (S2 : MS), out = .inl (.inr (.inl (y0, y1, y2, y3, S2))) → ∀ (H1 : Heap) (locs1 : List Loc) (ls1 : Array Slot), ST D cy ad A s.heap (ZN n0 s.heap.size) S2 H1 locs1 → lv_has ls1 6 [(0, .ref (ad y0)), (1, .ref (ad y1)), (2, .int y2), (3, .int y3)] → W p l e rmX0_settle s m args below meth c H1 locs1 0 0 (MQ below (QcM D cy ad A n0 S' (none)) args s 0 0 A) (F0 m 65 ls1 [])) (Kh2 : ∀ (y0 : Nat) (y1 : Nat) (y2 : Int32) (y3 : Int32) (S2 : MS), out = .inl (.inr (.inr (y0, y1, y2, y3, S2))) → ∀ (H1 : Heap) (locs1 : List Loc) (ls1 : Array Slot), ST D cy ad A s.heap (ZN n0 s.heap.size) S2 H1 locs1 → lv_has ls1 6 [(0, .ref (ad y0)), (1, .ref (ad y1)), (3, .int y2), (4, .int y3)] → W p l e rmX0_settle s m args below meth c H1 locs1 0 0 (MQ below (QcM D cy ad A n0 S' (none)) args s 0 0 A) (F0 m 112 ls1 [])) : W p l e rmX0_settle s m args below meth c H locs 0 0 (MQ below (QcM D cy ad A n0 S' (none)) args s 0 0 A) (F0 m 56 ls [.int z2, .int z1, .ref (ad z0)]) := by
  unfold bX0_settle_56 at hF
  obtain ⟨hx, hb, -, hown, -, hts, -⟩ := id C0
  obtain ⟨S56, hv, hF⟩ := ob hF
  refine k_st C0 M hv dX0_settle_56 (fun H locs M => ?_)
  obtain ⟨v57, hv, hF⟩ := ob hF
  refine lv_iinc (v := v57) (lv' := [(3, .int v57), (0, .ref (ad x0)), (1, .ref (ad x1)), (2, .int x2)]) hx hb dX0_settle_57 hl (k := 3) rfl (by rw [← vtI hv]; rfl) (by decide) rfl (fun ls hl => ?_)
  refine lv_goto (tgt := 10) hx hb dX0_settle_60 (by decide) ?_
  exact Kh0 _ _ _ _ _ (Option.some.inj hF).symm _ _ _ M (lv_sub hl [1, 2, 3, 0] rfl)
set_option maxHeartbeats 4000000 in
set_option maxRecDepth 100000 in
theorem wX0_settle_10 {p : Program} {l : Launch} {e : Env} {s : State} {m : MethodId} {args : Array Value} {below : List Frame} {meth : Method} {c : Code} {D : va_G} {cy : Nat → ClassId} (ad : Nat → Nat) (A : Nat → Prop) {S : MS} {S' : MS} {H : Heap} {locs : List Loc} {n0 : Nat} {out : (((Nat × Nat × Int32 × Int32 × MS) ⊕ ((Nat × Nat × Int32 × Int32 × MS) ⊕ (Nat × Nat × Int32 × Int32 × MS))) ⊕ MS)} {ls : Array Slot} {x0 : Nat} {x1 : Nat} {x2 : Int32} {x3 : Int32} (C0 : CX p s m args meth c RX0 cX0_settle 6 D cy) (M : ST D cy ad A s.heap (ZN n0 s.heap.size) S H locs) (hr : meth.sig.returnType = none) (hF : bX0_settle_10 S x0 x1 x2 x3 = some out) (hl : lv_has ls 6 [(0, .ref (ad x0)), (1, .ref (ad x1)), (2, .int x2), (3, .int x3)]) (Kr : ∀ r9, out = .inr r9 → r9 = S') (Kh0 : ∀ (y0 : Nat) (y1 : Nat) (y2 : Int32) (y3 : Int32) (S2 : MS), out = .inl (.inl (y0, y1, y2, y3, S2)) → ∀ (H1 : Heap) (locs1 : List Loc) (ls1 : Array Slot), ST D cy ad A s.heap (ZN n0 s.heap.size) S2 H1 locs1 → lv_has ls1 6 [(0, .ref (ad y0)), (1, .ref (ad y1)), (2, .int y2), (3, .int y3)] → W p l e rmX0_settle s m args below meth c H1 locs1 0 0 (MQ below (QcM D cy ad A n0 S' (none)) args s 0 0 A) (F0 m 10 ls1 [])) (Kh1 : ∀ (y0 : Nat) (y1 : Nat) (y2 : Int32) (y3 : Int32) (S2 : MS), out = .inl (.inr (.inl (y0, y1, y2, y3, S2))) → ∀ (H1 : Heap) (locs1 : List Loc) (ls1 : Array Slot), ST D cy ad A s.heap (ZN n0 s.heap.size) S2 H1 locs1 → lv_has ls1 6 [(0, .ref (ad y0)), (1, .ref (ad y1)), (2, .int y2), (3, .int y3)] → W p l e rmX0_settle s m args below meth c H1 locs1 0 0 (MQ below (QcM D cy ad A n0 S' (none)) args s 0 0 A) (F0 m 65 ls1 [])) (Kh2 : ∀ (y0 : Nat) (y1 : Nat) (y2 : Int32) (y3 : Int32) (S2 : MS), out = .inl (.inr (.inr (y0, y1, y2, y3, S2))) → ∀ (H1 : Heap) (locs1 : List Loc) (ls1 : Array Slot), ST D cy ad A s.heap (ZN n0 s.heap.size) S2 H1 locs1 → lv_has ls1 6 [(0, .ref (ad y0)), (1, .ref (ad y1)), (3, .int y2), (4, .int y3)] → W p l e rmX0_settle s m args below meth c H1 locs1 0 0 (MQ below (QcM D cy ad A n0 S' (none)) args s 0 0 A) (F0 m 112 ls1 [])) : W p l e rmX0_settle s m args below meth c H locs 0 0 (MQ below (QcM D cy ad A n0 S' (none)) args s 0 0 A) (F0 m 10 ls []) := by
  unfold bX0_settle_10 at hF
  obtain ⟨hx, hb, -, hown, -, hts, -⟩ := id C0
  refine lv_iload_n hx hb dX0_settle_10 rfl (lv_at hl 3 rfl) ?_
  refine lv_iload_n hx hb dX0_settle_11 rfl (lv_at hl 2 rfl) ?_
  refine lv_icmp_ge (tgt := 63) hx hb dX0_settle_12 (by decide) (fun hc => ?_) (fun hc => ?_)
  · have hF := oi_t hc hF
    refine lv_iconst (v := (0 : Int32)) hx hb dX0_settle_63 (by decide) ?_
    refine lv_istore_n (lv' := [(3, .int (0 : Int32)), (0, .ref (ad x0)), (1, .ref (ad x1)), (2, .int x2)]) hx hb dX0_settle_64 rfl hl (by decide) rfl (fun ls hl => ?_)
    exact Kh1 _ _ _ _ _ (Option.some.inj hF).symm _ _ _ M (lv_sub hl [1, 2, 3, 0] rfl)
  · have hF := oi_f hc hF
    refine lv_aload_n hx hb dX0_settle_15 rfl (lv_at hl 1 rfl) ?_
    obtain ⟨v16, hv, hF⟩ := ob hF
    refine k_getP C0 M.1 hv fl_X0_56 dX0_settle_16 ?_
    refine lv_iload_n hx hb dX0_settle_19 rfl (lv_at hl 3 rfl) ?_
    obtain ⟨v20, hv, hF⟩ := ob hF
    refine k_ld C0 M.1 hv dX0_settle_20 ?_
    refine lv_istore (lv' := [(4, .int v20), (0, .ref (ad x0)), (1, .ref (ad x1)), (2, .int x2), (3, .int x3)]) hx hb dX0_settle_21 hl (by decide) rfl (fun ls hl => ?_)
    refine lv_aload_n hx hb dX0_settle_23 rfl (lv_at hl 1 rfl) ?_
    obtain ⟨v24, hv, hF⟩ := ob hF
    refine k_getP C0 M.1 hv fl_X0_15 dX0_settle_24 ?_
    refine lv_iload_n hx hb dX0_settle_27 rfl (lv_at hl 4 rfl) ?_
    refine lv_iload hx hb dX0_settle_28 (lv_at hl 0 rfl) ?_
    refine lv_bipush (v := (-9 : Int32)) hx hb dX0_settle_30 (by decide) ?_
    refine lv_icmp_ne (tgt := 40) hx hb dX0_settle_32 (by decide) (fun hc => ?_) (fun hc => ?_)
    · have hF := oi_f hc hF
      refine lv_aload_n hx hb dX0_settle_40 rfl (lv_at hl 2 rfl) ?_
      refine lv_aload_n hx hb dX0_settle_41 rfl (lv_at hl 2 rfl) ?_
      obtain ⟨v42, hv, hF⟩ := ob hF
      refine k_getP C0 M.1 hv fl_X0_59 dX0_settle_42 ?_
      refine lv_iload hx hb dX0_settle_45 (lv_at hl 0 rfl) ?_
      obtain ⟨_, hrec, hF⟩ := ob hF
      obtain ⟨v47, hcl, hF⟩ := ob hF
      refine go_SP (r_V (rest := [.ref (ad x1), .int x3, .ref (ad v24)]) (As := [.int v20]) C0 cb_X0_62 M.1 hrec (tJx4a65c_get_915e3 l D cy ad A hcl) (pre_R C0 M.1) hl dX0_settle_47 rfl (Nat.le_of_ble_eq_true rfl) ⟨rfl, rfl⟩ ⟨Nat.le_of_ble_eq_true rfl, Nat.le_of_ble_eq_true rfl⟩ ⟨Nat.le_of_ble_eq_true rfl, Nat.le_of_ble_eq_true rfl⟩ rfl) ?_
      obtain ⟨v50, hv, hF⟩ := ob hF
      refine k_cast (C := RX8) (T := TX8) (N := 6) C0 M.1 hv (by decide) rfl (uw_of 519 (by decide +kernel) rfl) dX0_settle_50 ?_
      obtain ⟨_, hrec, hF⟩ := ob hF
      obtain ⟨v53, hcl, hF⟩ := ob hF
      refine go_SI (r_V (rest := [.int x3, .ref (ad v24)]) (As := [.ref (ad v50)]) C0 cb_X0_68 M.1 hrec (tX1_mendedLevel l D cy ad A hcl) (pre_R C0 M.1) hl dX0_settle_53 rfl (Nat.le_of_ble_eq_true rfl) ⟨rfl, rfl⟩ ⟨Nat.le_of_ble_eq_true rfl, Nat.le_of_ble_eq_true rfl⟩ ⟨Nat.le_of_ble_eq_true rfl, Nat.le_of_ble_eq_true rfl⟩ rfl) ?_
      exact wX0_settle_56 ad A C0 M hr hF (lv_sub hl [1, 2, 3, 4] rfl) Kr Kh0 Kh1 Kh2
    · have hF := oi_t hc hF
      refine lv_bipush (v := (-9 : Int32)) hx hb dX0_settle_35 (by decide) ?_
      refine lv_goto (tgt := 56) hx hb dX0_settle_37 (by decide) ?_
      exact wX0_settle_56 ad A C0 M hr hF (lv_sub hl [1, 2, 3, 4] rfl) Kr Kh0 Kh1 Kh2
set_option maxHeartbeats 4000000 in
set_option maxRecDepth 100000 in
theorem wX0_settle_65 {p : Program} {l : Launch} {e : Env} {s : State} {m : MethodId} {args : Array Value} {below : List Frame} {meth : Method} {c : Code} {D : va_G} {cy : Nat → ClassId} (ad : Nat → Nat) (A : Nat → Prop) {S : MS} {S' : MS} {H : Heap} {locs : List Loc} {n0 : Nat} {out : (((Nat × Nat × Int32 × Int32 × MS) ⊕ ((Nat × Nat × Int32 × Int32 × MS) ⊕ (Nat × Nat × Int32 × Int32 × MS))) ⊕ MS)} {ls : Array Slot} {x0 : Nat} {x1 : Nat} {x2 : Int32} {x3 : Int32} (C0 : CX p s m args meth c RX0 cX0_settle 6 D cy) (M : ST D cy ad A s.heap (ZN n0 s.heap.size) S H locs) (hr : meth.sig.returnType = none) (hF : bX0_settle_65 S x0 x1 x2 x3 = some out) (hl : lv_has ls 6 [(0, .ref (ad x0)), (1, .ref (ad x1)), (2, .int x2), (3, .int x3)]) (Kr : ∀ r9, out = .inr r9 → r9 = S') (Kh0 : ∀ (y0 : Nat) (y1 : Nat) (y2 : Int32) (y3 : Int32) (S2 : MS), out = .inl (.inl (y0, y1, y2, y3, S2)) → ∀ (H1 : Heap) (locs1 : List Loc) (ls1 : Array Slot), ST D cy ad A s.heap (ZN n0 s.heap.size) S2 H1 locs1 → lv_has ls1 6 [(0, .ref (ad y0)), (1, .ref (ad y1)), (2, .int y2), (3, .int y3)] → W p l e rmX0_settle s m args below meth c H1 locs1 0 0 (MQ below (QcM D cy ad A n0 S' (none)) args s 0 0 A) (F0 m 10 ls1 [])) (Kh1 : ∀ (y0 : Nat) (y1 : Nat) (y2 : Int32) (y3 : Int32) (S2 : MS), out = .inl (.inr (.inl (y0, y1, y2, y3, S2))) → ∀ (H1 : Heap) (locs1 : List Loc) (ls1 : Array Slot), ST D cy ad A s.heap (ZN n0 s.heap.size) S2 H1 locs1 → lv_has ls1 6 [(0, .ref (ad y0)), (1, .ref (ad y1)), (2, .int y2), (3, .int y3)] → W p l e rmX0_settle s m args below meth c H1 locs1 0 0 (MQ below (QcM D cy ad A n0 S' (none)) args s 0 0 A) (F0 m 65 ls1 [])) (Kh2 : ∀ (y0 : Nat) (y1 : Nat) (y2 : Int32) (y3 : Int32) (S2 : MS), out = .inl (.inr (.inr (y0, y1, y2, y3, S2))) → ∀ (H1 : Heap) (locs1 : List Loc) (ls1 : Array Slot), ST D cy ad A s.heap (ZN n0 s.heap.size) S2 H1 locs1 → lv_has ls1 6 [(0, .ref (ad y0)), (1, .ref (ad y1)), (3, .int y2), (4, .int y3)] → W p l e rmX0_settle s m args below meth c H1 locs1 0 0 (MQ below (QcM D cy ad A n0 S' (none)) args s 0 0 A) (F0 m 112 ls1 [])) : W p l e rmX0_settle s m args below meth c H locs 0 0 (MQ below (QcM D cy ad A n0 S' (none)) args s 0 0 A) (F0 m 65 ls []) := by
  unfold bX0_settle_65 at hF
  obtain ⟨hx, hb, -, hown, -, hts, -⟩ := id C0
  refine lv_iload_n hx hb dX0_settle_65 rfl (lv_at hl 3 rfl) ?_
  refine lv_iload_n hx hb dX0_settle_66 rfl (lv_at hl 2 rfl) ?_
  refine lv_icmp_ge (tgt := 88) hx hb dX0_settle_67 (by decide) (fun hc => ?_) (fun hc => ?_)
  · have hF := oi_t hc hF
    refine lv_aload_n hx hb dX0_settle_88 rfl (lv_at hl 0 rfl) ?_
    refine lv_aload_n hx hb dX0_settle_89 rfl (lv_at hl 0 rfl) ?_
    refine lv_iload_n hx hb dX0_settle_90 rfl (lv_at hl 2 rfl) ?_
    obtain ⟨_, hrec, hF⟩ := ob hF
    obtain ⟨v91, hcl, hF⟩ := ob hF
    refine go_SI (r_V (rest := [.ref (ad x0)]) (As := [.int x2]) C0 cb_X0_76 M.1 hrec (tX0_fewestDoubts l D cy ad A hcl) (pre_R C0 M.1) hl dX0_settle_91 rfl (Nat.le_of_ble_eq_true rfl) ⟨rfl, rfl⟩ ⟨Nat.le_of_ble_eq_true rfl, Nat.le_of_ble_eq_true rfl⟩ ⟨Nat.le_of_ble_eq_true rfl, Nat.le_of_ble_eq_true rfl⟩ rfl) ?_
    obtain ⟨S94, hv, hF⟩ := ob hF
    refine k_sI C0 M hv fl_X0_22 dX0_settle_94 (fun H locs M => ?_)
    refine lv_aload_n hx hb dX0_settle_97 rfl (lv_at hl 1 rfl) ?_
    obtain ⟨v98, hv, hF⟩ := ob hF
    refine k_getI C0 M.1 hv fl_X0_80 dX0_settle_98 ?_
    refine lv_aload_n hx hb dX0_settle_101 rfl (lv_at hl 0 rfl) ?_
    obtain ⟨v102, hv, hF⟩ := ob hF
    refine k_getI C0 M.1 hv fl_X0_22 dX0_settle_102 ?_
    refine lv_iconst (v := (-1 : Int32)) hx hb dX0_settle_105 (by decide) ?_
    refine lv_ixor hx hb dX0_settle_106 ?_
    refine lv_iand hx hb dX0_settle_107 ?_
    obtain ⟨v108, hv, hF⟩ := ob hF
    have hv := vtI hv
    refine vtopi hv ?_
    refine lv_istore_n (lv' := [(3, .int v108), (0, .ref (ad x0)), (1, .ref (ad x1)), (2, .int x2)]) hx hb dX0_settle_108 rfl hl (by decide) rfl (fun ls hl => ?_)
    refine lv_iconst (v := (0 : Int32)) hx hb dX0_settle_109 (by decide) ?_
    refine lv_istore (lv' := [(4, .int (0 : Int32)), (3, .int v108), (0, .ref (ad x0)), (1, .ref (ad x1)), (2, .int x2)]) hx hb dX0_settle_110 hl (by decide) rfl (fun ls hl => ?_)
    exact Kh2 _ _ _ _ _ (Option.some.inj hF).symm _ _ _ M (lv_sub hl [2, 3, 1, 0] rfl)
  · have hF := oi_f hc hF
    refine lv_aload_n hx hb dX0_settle_70 rfl (lv_at hl 0 rfl) ?_
    obtain ⟨v71, hv, hF⟩ := ob hF
    refine k_getP C0 M.1 hv fl_X0_19 dX0_settle_71 ?_
    refine lv_iload_n hx hb dX0_settle_74 rfl (lv_at hl 3 rfl) ?_
    refine lv_aload_n hx hb dX0_settle_75 rfl (lv_at hl 0 rfl) ?_
    refine lv_aload_n hx hb dX0_settle_76 rfl (lv_at hl 1 rfl) ?_
    refine lv_iload_n hx hb dX0_settle_77 rfl (lv_at hl 3 rfl) ?_
    obtain ⟨_, hrec, hF⟩ := ob hF
    obtain ⟨v78, hcl, hF⟩ := ob hF
    refine go_SI (r_V (rest := [.int x3, .ref (ad v71)]) (As := [.ref (ad x1), .int x3]) C0 cb_X0_72 M.1 hrec (tX0_rivalsOf l D cy ad A hcl) (pre_R C0 M.1) hl dX0_settle_78 rfl (Nat.le_of_ble_eq_true rfl) ⟨rfl, rfl⟩ ⟨Nat.le_of_ble_eq_true rfl, Nat.le_of_ble_eq_true rfl⟩ ⟨Nat.le_of_ble_eq_true rfl, Nat.le_of_ble_eq_true rfl⟩ rfl) ?_
    obtain ⟨S81, hv, hF⟩ := ob hF
    refine k_st C0 M hv dX0_settle_81 (fun H locs M => ?_)
    obtain ⟨v82, hv, hF⟩ := ob hF
    refine lv_iinc (v := v82) (lv' := [(3, .int v82), (0, .ref (ad x0)), (1, .ref (ad x1)), (2, .int x2)]) hx hb dX0_settle_82 hl (k := 3) rfl (by rw [← vtI hv]; rfl) (by decide) rfl (fun ls hl => ?_)
    refine lv_goto (tgt := 65) hx hb dX0_settle_85 (by decide) ?_
    exact Kh1 _ _ _ _ _ (Option.some.inj hF).symm _ _ _ M (lv_sub hl [1, 2, 3, 0] rfl)
set_option maxHeartbeats 4000000 in
set_option maxRecDepth 100000 in
theorem wX0_settle_154 {p : Program} {l : Launch} {e : Env} {s : State} {m : MethodId} {args : Array Value} {below : List Frame} {meth : Method} {c : Code} {D : va_G} {cy : Nat → ClassId} (ad : Nat → Nat) (A : Nat → Prop) {S : MS} {S' : MS} {H : Heap} {locs : List Loc} {n0 : Nat} {out : (((Nat × Nat × Int32 × Int32 × MS) ⊕ ((Nat × Nat × Int32 × Int32 × MS) ⊕ (Nat × Nat × Int32 × Int32 × MS))) ⊕ MS)} {ls : Array Slot} {x0 : Nat} {x1 : Nat} {x3 : Int32} {x4 : Int32} {z0 : Nat} {z1 : Int32} {z2 : Int32} (C0 : CX p s m args meth c RX0 cX0_settle 6 D cy) (M : ST D cy ad A s.heap (ZN n0 s.heap.size) S H locs) (hr : meth.sig.returnType = none) (hF : bX0_settle_154 S x0 x1 x3 x4 z0 z1 z2 = some out) (hl : lv_has ls 6 [(0, .ref (ad x0)), (1, .ref (ad x1)), (3, .int x3), (4, .int x4)]) (Kr : ∀ r9, out = .inr r9 → r9 = S') (Kh0 : ∀ (y0 : Nat) (y1 : Nat) (y2 : Int32) (y3 : Int32) (S2 : MS), out = .inl (.inl (y0, y1, y2, y3, S2)) → ∀ (H1 : Heap) (locs1 : List Loc) (ls1 : Array Slot), ST D cy ad A s.heap (ZN n0 s.heap.size) S2 H1 locs1 → lv_has ls1 6 [(0, .ref (ad y0)), (1, .ref (ad y1)), (2, .int y2), (3, .int y3)] → W p l e rmX0_settle s m args below meth c H1 locs1 0 0 (MQ below (QcM D cy ad A n0 S' (none)) args s 0 0 A) (F0 m 10 ls1 [])) (Kh1 : ∀ (y0 : Nat) (y1 : Nat) (y2 : Int32) (y3 : Int32) (S2 : MS), out = .inl (.inr (.inl (y0, y1, y2, y3, S2))) → ∀ (H1 : Heap) (locs1 : List Loc) (ls1 : Array Slot), ST D cy ad A s.heap (ZN n0 s.heap.size) S2 H1 locs1 → lv_has ls1 6 [(0, .ref (ad y0)), (1, .ref (ad y1)), (2, .int y2), (3, .int y3)] → W p l e rmX0_settle s m args below meth c H1 locs1 0 0 (MQ below (QcM D cy ad A n0 S' (none)) args s 0 0 A) (F0 m 65 ls1 [])) (Kh2 : ∀ (y0 : Nat) (y1 : Nat) (y2 : Int32) (y3 : Int32) (S2 : MS), out = .inl (.inr (.inr (y0, y1, y2, y3, S2))) → ∀ (H1 : Heap) (locs1 : List Loc) (ls1 : Array Slot), ST D cy ad A s.heap (ZN n0 s.heap.size) S2 H1 locs1 → lv_has ls1 6 [(0, .ref (ad y0)), (1, .ref (ad y1)), (3, .int y2), (4, .int y3)] → W p l e rmX0_settle s m args below meth c H1 locs1 0 0 (MQ below (QcM D cy ad A n0 S' (none)) args s 0 0 A) (F0 m 112 ls1 [])) : W p l e rmX0_settle s m args below meth c H locs 0 0 (MQ below (QcM D cy ad A n0 S' (none)) args s 0 0 A) (F0 m 154 ls [.int z2, .int z1, .ref (ad z0)]) := by
  unfold bX0_settle_154 at hF
  obtain ⟨hx, hb, -, hown, -, hts, -⟩ := id C0
  obtain ⟨S154, hv, hF⟩ := ob hF
  refine k_st C0 M hv dX0_settle_154 (fun H locs M => ?_)
  obtain ⟨v155, hv, hF⟩ := ob hF
  refine lv_iinc (v := v155) (lv' := [(4, .int v155), (0, .ref (ad x0)), (1, .ref (ad x1)), (3, .int x3)]) hx hb dX0_settle_155 hl (k := 3) rfl (by rw [← vtI hv]; rfl) (by decide) rfl (fun ls hl => ?_)
  refine lv_goto (tgt := 112) hx hb dX0_settle_158 (by decide) ?_
  exact Kh2 _ _ _ _ _ (Option.some.inj hF).symm _ _ _ M (lv_sub hl [1, 2, 3, 0] rfl)
set_option maxHeartbeats 4000000 in
set_option maxRecDepth 100000 in
theorem wX0_settle_112 {p : Program} {l : Launch} {e : Env} {s : State} {m : MethodId} {args : Array Value} {below : List Frame} {meth : Method} {c : Code} {D : va_G} {cy : Nat → ClassId} (ad : Nat → Nat) (A : Nat → Prop) {S : MS} {S' : MS} {H : Heap} {locs : List Loc} {n0 : Nat} {out : (((Nat × Nat × Int32 × Int32 × MS) ⊕ ((Nat × Nat × Int32 × Int32 × MS) ⊕ (Nat × Nat × Int32 × Int32 × MS))) ⊕ MS)} {ls : Array Slot} {x0 : Nat} {x1 : Nat} {x3 : Int32} {x4 : Int32} (C0 : CX p s m args meth c RX0 cX0_settle 6 D cy) (M : ST D cy ad A s.heap (ZN n0 s.heap.size) S H locs) (hr : meth.sig.returnType = none) (hF : bX0_settle_112 S x0 x1 x3 x4 = some out) (hl : lv_has ls 6 [(0, .ref (ad x0)), (1, .ref (ad x1)), (3, .int x3), (4, .int x4)]) (Kr : ∀ r9, out = .inr r9 → r9 = S') (Kh0 : ∀ (y0 : Nat) (y1 : Nat) (y2 : Int32) (y3 : Int32) (S2 : MS), out = .inl (.inl (y0, y1, y2, y3, S2)) → ∀ (H1 : Heap) (locs1 : List Loc) (ls1 : Array Slot), ST D cy ad A s.heap (ZN n0 s.heap.size) S2 H1 locs1 → lv_has ls1 6 [(0, .ref (ad y0)), (1, .ref (ad y1)), (2, .int y2), (3, .int y3)] → W p l e rmX0_settle s m args below meth c H1 locs1 0 0 (MQ below (QcM D cy ad A n0 S' (none)) args s 0 0 A) (F0 m 10 ls1 [])) (Kh1 : ∀ (y0 : Nat) (y1 : Nat) (y2 : Int32) (y3 : Int32) (S2 : MS), out = .inl (.inr (.inl (y0, y1, y2, y3, S2))) → ∀ (H1 : Heap) (locs1 : List Loc) (ls1 : Array Slot), ST D cy ad A s.heap (ZN n0 s.heap.size) S2 H1 locs1 → lv_has ls1 6 [(0, .ref (ad y0)), (1, .ref (ad y1)), (2, .int y2), (3, .int y3)] → W p l e rmX0_settle s m args below meth c H1 locs1 0 0 (MQ below (QcM D cy ad A n0 S' (none)) args s 0 0 A) (F0 m 65 ls1 [])) (Kh2 : ∀ (y0 : Nat) (y1 : Nat) (y2 : Int32) (y3 : Int32) (S2 : MS), out = .inl (.inr (.inr (y0, y1, y2, y3, S2))) → ∀ (H1 : Heap) (locs1 : List Loc) (ls1 : Array Slot), ST D cy ad A s.heap (ZN n0 s.heap.size) S2 H1 locs1 → lv_has ls1 6 [(0, .ref (ad y0)), (1, .ref (ad y1)), (3, .int y2), (4, .int y3)] → W p l e rmX0_settle s m args below meth c H1 locs1 0 0 (MQ below (QcM D cy ad A n0 S' (none)) args s 0 0 A) (F0 m 112 ls1 [])) : W p l e rmX0_settle s m args below meth c H locs 0 0 (MQ below (QcM D cy ad A n0 S' (none)) args s 0 0 A) (F0 m 112 ls []) := by
  unfold bX0_settle_112 at hF
  obtain ⟨hx, hb, -, hown, -, hts, -⟩ := id C0
  refine lv_iload hx hb dX0_settle_112 (lv_at hl 3 rfl) ?_
  refine lv_sipush (v := (144 : Int32)) hx hb dX0_settle_114 (by decide) ?_
  refine lv_icmp_ge (tgt := 161) hx hb dX0_settle_117 (by decide) (fun hc => ?_) (fun hc => ?_)
  · have hF := oi_t hc hF
    obtain rfl := (Kr _ (Option.some.inj hF).symm)
    exact rt_MV C0 M hr dX0_settle_161
  · have hF := oi_f hc hF
    refine lv_aload_n hx hb dX0_settle_120 rfl (lv_at hl 1 rfl) ?_
    refine lv_iload_n hx hb dX0_settle_121 rfl (lv_at hl 2 rfl) ?_
    refine lv_iload hx hb dX0_settle_122 (lv_at hl 3 rfl) ?_
    obtain ⟨_, hrec, hF⟩ := ob hF
    obtain ⟨v124, hcl, hF⟩ := ob hF
    refine go_SI (r_V (rest := []) (As := [.int x3, .int x4]) C0 cb_X0_83 M.1 hrec (tX1_nearestOf l D cy ad A hcl) (pre_R C0 M.1) hl dX0_settle_124 rfl (Nat.le_of_ble_eq_true rfl) ⟨rfl, rfl⟩ ⟨Nat.le_of_ble_eq_true rfl, Nat.le_of_ble_eq_true rfl⟩ ⟨Nat.le_of_ble_eq_true rfl, Nat.le_of_ble_eq_true rfl⟩ rfl) ?_
    refine lv_istore (lv' := [(5, .int v124), (0, .ref (ad x0)), (1, .ref (ad x1)), (3, .int x3), (4, .int x4)]) hx hb dX0_settle_127 hl (by decide) rfl (fun ls hl => ?_)
    refine lv_aload_n hx hb dX0_settle_129 rfl (lv_at hl 1 rfl) ?_
    obtain ⟨v130, hv, hF⟩ := ob hF
    refine k_getP C0 M.1 hv fl_X0_25 dX0_settle_130 ?_
    refine lv_iload hx hb dX0_settle_133 (lv_at hl 4 rfl) ?_
    refine lv_iload hx hb dX0_settle_135 (lv_at hl 0 rfl) ?_
    refine lv_bipush (v := (-9 : Int32)) hx hb dX0_settle_137 (by decide) ?_
    refine lv_icmp_ne (tgt := 147) hx hb dX0_settle_139 (by decide) (fun hc => ?_) (fun hc => ?_)
    · have hF := oi_f hc hF
      refine lv_aload_n hx hb dX0_settle_147 rfl (lv_at hl 1 rfl) ?_
      obtain ⟨v148, hv, hF⟩ := ob hF
      refine k_getP C0 M.1 hv fl_X0_15 dX0_settle_148 ?_
      refine lv_iload hx hb dX0_settle_151 (lv_at hl 0 rfl) ?_
      obtain ⟨v153, hv, hF⟩ := ob hF
      refine k_ld C0 M.1 hv dX0_settle_153 ?_
      exact wX0_settle_154 ad A C0 M hr hF (lv_sub hl [1, 2, 3, 4] rfl) Kr Kh0 Kh1 Kh2
    · have hF := oi_t hc hF
      refine lv_bipush (v := (-9 : Int32)) hx hb dX0_settle_142 (by decide) ?_
      refine lv_goto (tgt := 154) hx hb dX0_settle_144 (by decide) ?_
      exact wX0_settle_154 ad A C0 M hr hF (lv_sub hl [1, 2, 3, 4] rfl) Kr Kh0 Kh1 Kh2
set_option maxHeartbeats 4000000 in
set_option maxRecDepth 100000 in
theorem tX0_settle (l : Launch) (D : va_G) (cy : Nat → ClassId) (ad : Nat → Nat) (A : Nat → Prop) {S S' : MS} {a0 : Nat} {a1 : Nat} (h : fX0_settle S a0 a1 = some S') : Met l yX0_settle [Cond.code yX0_settle cX0_settle 6 (none)] rmX0_settle (PcR D cy ad A S [.ref (ad a0), .ref (ad a1)]) (QcM D cy ad A (m_n S) S' (none)) 0 0 A := by
  refine met_M (by decide +kernel) cw_X0_settle (Nat.le_of_ble_eq_true rfl) ?_
  intro p e s m args below meth c ls C0 M hr hin hl
  have hl : lv_has ls 6 [(0, .ref (ad a0)), (1, .ref (ad a1))] := hl
  have key := lim_walk (step := sX0_settle) (fun (q : ((Nat × Nat × Int32 × Int32 × MS) ⊕ ((Nat × Nat × Int32 × Int32 × MS) ⊕ (Nat × Nat × Int32 × Int32 × MS)))) (r9 : MS) => ∀ (S' : MS), r9 = S' → ((∀ (y0 : Nat) (y1 : Nat) (y2 : Int32) (y3 : Int32) (S2 : MS), q = (.inl (y0, y1, y2, y3, S2)) → ∀ (H1 : Heap) (locs1 : List Loc) (ls1 : Array Slot), ST D cy ad A s.heap (ZN (m_n S) s.heap.size) S2 H1 locs1 → lv_has ls1 6 [(0, .ref (ad y0)), (1, .ref (ad y1)), (2, .int y2), (3, .int y3)] → W p l e rmX0_settle s m args below meth c H1 locs1 0 0 (MQ below (QcM D cy ad A (m_n S) S' (none)) args s 0 0 A) (F0 m 10 ls1 [])) ∧ (∀ (y0 : Nat) (y1 : Nat) (y2 : Int32) (y3 : Int32) (S2 : MS), q = (.inr (.inl (y0, y1, y2, y3, S2))) → ∀ (H1 : Heap) (locs1 : List Loc) (ls1 : Array Slot), ST D cy ad A s.heap (ZN (m_n S) s.heap.size) S2 H1 locs1 → lv_has ls1 6 [(0, .ref (ad y0)), (1, .ref (ad y1)), (2, .int y2), (3, .int y3)] → W p l e rmX0_settle s m args below meth c H1 locs1 0 0 (MQ below (QcM D cy ad A (m_n S) S' (none)) args s 0 0 A) (F0 m 65 ls1 [])) ∧ (∀ (y0 : Nat) (y1 : Nat) (y2 : Int32) (y3 : Int32) (S2 : MS), q = (.inr (.inr (y0, y1, y2, y3, S2))) → ∀ (H1 : Heap) (locs1 : List Loc) (ls1 : Array Slot), ST D cy ad A s.heap (ZN (m_n S) s.heap.size) S2 H1 locs1 → lv_has ls1 6 [(0, .ref (ad y0)), (1, .ref (ad y1)), (3, .int y2), (4, .int y3)] → W p l e rmX0_settle s m args below meth c H1 locs1 0 0 (MQ below (QcM D cy ad A (m_n S) S' (none)) args s 0 0 A) (F0 m 112 ls1 [])))) ?_
  · unfold fX0_settle at h
    cases hs0 : bX0_settle_0 S a0 a1 with
    | none => rw [hs0] at h; cases h
    | some out =>
      rw [hs0] at h
      refine wX0_settle_0 ad A C0 M hr hs0 hl (fun r9 hr9 => ?_) ?_ ?_ ?_
      · subst hr9; exact Option.some.inj h
      · intro y0 y1 y2 y3 y4 hq; subst hq; exact (key _ _ h _ rfl).1 _ _ _ _ _ rfl
      · intro y0 y1 y2 y3 y4 hq; subst hq; exact (key _ _ h _ rfl).2.1 _ _ _ _ _ rfl
      · intro y0 y1 y2 y3 y4 hq; subst hq; exact (key _ _ h _ rfl).2.2 _ _ _ _ _ rfl
  · intro q r9 out hst hre hin9
    intro S' er; subst er
    refine ⟨?_, ?_, ?_⟩
    · intro y0 y1 y2 y3 y4 hq H1 locs1 ls1 M hl
      subst hq
      exact wX0_settle_10 ad A C0 M hr hst hl hre (fun k0 k1 k2 k3 k4 hk => (hin9 _ hk _ rfl).1 _ _ _ _ _ rfl) (fun k0 k1 k2 k3 k4 hk => (hin9 _ hk _ rfl).2.1 _ _ _ _ _ rfl) (fun k0 k1 k2 k3 k4 hk => (hin9 _ hk _ rfl).2.2 _ _ _ _ _ rfl)
    · intro y0 y1 y2 y3 y4 hq H1 locs1 ls1 M hl
      subst hq
      exact wX0_settle_65 ad A C0 M hr hst hl hre (fun k0 k1 k2 k3 k4 hk => (hin9 _ hk _ rfl).1 _ _ _ _ _ rfl) (fun k0 k1 k2 k3 k4 hk => (hin9 _ hk _ rfl).2.1 _ _ _ _ _ rfl) (fun k0 k1 k2 k3 k4 hk => (hin9 _ hk _ rfl).2.2 _ _ _ _ _ rfl)
    · intro y0 y1 y2 y3 y4 hq H1 locs1 ls1 M hl
      subst hq
      exact wX0_settle_112 ad A C0 M hr hst hl hre (fun k0 k1 k2 k3 k4 hk => (hin9 _ hk _ rfl).1 _ _ _ _ _ rfl) (fun k0 k1 k2 k3 k4 hk => (hin9 _ hk _ rfl).2.1 _ _ _ _ _ rfl) (fun k0 k1 k2 k3 k4 hk => (hin9 _ hk _ rfl).2.2 _ _ _ _ _ rfl)
set_option maxHeartbeats 4000000 in
set_option maxRecDepth 100000 in
theorem wX9_settledChart_23 {p : Program} {l : Launch} {e : Env} {s : State} {m : MethodId} {args : Array Value} {below : List Frame} {meth : Method} {c : Code} {D : va_G} {cy : Nat → ClassId} (ad : Nat → Nat) (A : Nat → Prop) {S : MS} {S' : MS} {H : Heap} {locs : List Loc} {n0 : Nat} {r : Nat} {ls : Array Slot} {x0 : Nat} (C0 : CX p s m args meth c RX9 cX9_settledChart 1 D cy) (M : ST D cy ad A s.heap (ZN n0 s.heap.size) S H locs) (hr : meth.sig.returnType = (some (.object "ChartRoom$Chart"))) (hF : bX9_settledChart_23 S x0 = some (r, S')) (hl : lv_has ls 1 [(0, .ref (ad x0))]) : W p l e rmX9_settledChart s m args below meth c H locs 0 0 (MQ below (QcM D cy ad A n0 S' (some (.ref (ad r)))) args s 0 0 A) (F0 m 23 ls []) := by
  unfold bX9_settledChart_23 at hF
  obtain ⟨hx, hb, -, hown, -, hts, -⟩ := id C0
  refine lv_aload_n hx hb dX9_settledChart_23 rfl (lv_at hl 0 rfl) ?_
  obtain ⟨v24, hv, hF⟩ := ob hF
  refine k_getP C0 M.1 hv fl_X9_21 dX9_settledChart_24 ?_
  obtain ⟨rfl, rfl⟩ := Prod.mk.inj (Option.some.inj hF)
  exact rt_MP C0 M hr (Or.inl ⟨_, rfl⟩) dX9_settledChart_27
set_option maxHeartbeats 4000000 in
set_option maxRecDepth 100000 in
theorem wX9_settledChart_0 {p : Program} {l : Launch} {e : Env} {s : State} {m : MethodId} {args : Array Value} {below : List Frame} {meth : Method} {c : Code} {D : va_G} {cy : Nat → ClassId} (ad : Nat → Nat) (A : Nat → Prop) {S : MS} {S' : MS} {H : Heap} {locs : List Loc} {n0 : Nat} {r : Nat} {ls : Array Slot} {x0 : Nat} (C0 : CX p s m args meth c RX9 cX9_settledChart 1 D cy) (M : ST D cy ad A s.heap (ZN n0 s.heap.size) S H locs) (hr : meth.sig.returnType = (some (.object "ChartRoom$Chart"))) (hF : bX9_settledChart_0 S x0 = some (r, S')) (hl : lv_has ls 1 [(0, .ref (ad x0))]) : W p l e rmX9_settledChart s m args below meth c H locs 0 0 (MQ below (QcM D cy ad A n0 S' (some (.ref (ad r)))) args s 0 0 A) (F0 m 0 ls []) := by
  unfold bX9_settledChart_0 at hF
  obtain ⟨hx, hb, -, hown, -, hts, -⟩ := id C0
  refine lv_aload_n hx hb dX9_settledChart_0 rfl (lv_at hl 0 rfl) ?_
  obtain ⟨v1, hv, hF⟩ := ob hF
  refine k_getI C0 M.1 hv fl_X9_25 dX9_settledChart_1 ?_
  refine lv_if_eq (tgt := 23) hx hb dX9_settledChart_4 (by decide) (fun hc => ?_) (fun hc => ?_)
  · have hF := oi_t hc hF
    exact wX9_settledChart_23 ad A C0 M hr hF (lv_sub hl [0] rfl)
  · have hF := oi_f hc hF
    refine lv_aload_n hx hb dX9_settledChart_7 rfl (lv_at hl 0 rfl) ?_
    obtain ⟨v8, hv, hF⟩ := ob hF
    refine k_getP C0 M.1 hv fl_X9_21 dX9_settledChart_8 ?_
    refine lv_aload_n hx hb dX9_settledChart_11 rfl (lv_at hl 0 rfl) ?_
    obtain ⟨v12, hv, hF⟩ := ob hF
    refine k_getP C0 M.1 hv fl_X9_12 dX9_settledChart_12 ?_
    obtain ⟨_, hrec, hF⟩ := ob hF
    obtain ⟨S15, hcl, hF⟩ := ob hF
    refine go_MV (r_V (rest := []) (As := [.ref (ad v12)]) C0 cb_X9_378 M.1 hrec (tX0_settle l D cy ad A hcl) (pre_R C0 M.1) hl dX9_settledChart_15 rfl (Nat.le_of_ble_eq_true rfl) ⟨rfl, rfl⟩ ⟨Nat.le_of_ble_eq_true rfl, Nat.le_of_ble_eq_true rfl⟩ ⟨Nat.le_of_ble_eq_true rfl, Nat.le_of_ble_eq_true rfl⟩ rfl) M (fun H locs M => ?_)
    refine lv_aload_n hx hb dX9_settledChart_18 rfl (lv_at hl 0 rfl) ?_
    refine lv_iconst (v := (0 : Int32)) hx hb dX9_settledChart_19 (by decide) ?_
    have hz : o_zb (0 : Int32) = some (0 : Int32) := rfl
    obtain ⟨S20, hv, hF⟩ := ob hF
    refine k_sZ C0 M hz hv fl_X9_25 dX9_settledChart_20 (fun H locs M => ?_)
    exact wX9_settledChart_23 ad A C0 M hr hF (lv_sub hl [0] rfl)
set_option maxHeartbeats 4000000 in
set_option maxRecDepth 100000 in
theorem tX9_settledChart (l : Launch) (D : va_G) (cy : Nat → ClassId) (ad : Nat → Nat) (A : Nat → Prop) {S S' : MS} {a0 : Nat} {r : Nat} (h : fX9_settledChart S a0 = some (r, S')) : Met l yX9_settledChart [Cond.code yX9_settledChart cX9_settledChart 1 ((some (.object "ChartRoom$Chart")))] rmX9_settledChart (PcR D cy ad A S [.ref (ad a0)]) (QcM D cy ad A (m_n S) S' (some (.ref (ad r)))) 0 0 A := by
  refine met_M (by decide +kernel) cw_X9_settledChart (Nat.le_of_ble_eq_true rfl) ?_
  intro p e s m args below meth c ls C0 M hr hin hl
  have hl : lv_has ls 1 [(0, .ref (ad a0))] := hl
  exact wX9_settledChart_0 ad A C0 M hr h hl
set_option maxHeartbeats 4000000 in
set_option maxRecDepth 100000 in
theorem wX1_countWiresOf_0 {p : Program} {l : Launch} {e : Env} {s : State} {m : MethodId} {args : Array Value} {below : List Frame} {meth : Method} {c : Code} {D : va_G} {cy : Nat → ClassId} (ad : Nat → Nat) (A : Nat → Prop) {S : MS} {r : Int32} {out : ((Nat × Int32 × Int32 × Int32) ⊕ Int32)} {ls : Array Slot} {x0 : Nat} {x1 : Int32} (C0 : CX p s m args meth c RX1 cX1_countWiresOf 4 D cy) (M : MW D cy ad A S s.heap) (hr : meth.sig.returnType = some .int) (hF : bX1_countWiresOf_0 S x0 x1 = some out) (hl : lv_has ls 4 [(0, .ref (ad x0)), (1, .int x1)]) (Kr : ∀ r9, out = .inr r9 → r9 = r) (Kh0 : ∀ (y0 : Nat) (y1 : Int32) (y2 : Int32) (y3 : Int32), out = .inl (y0, y1, y2, y3) → ∀ (ls1 : Array Slot), lv_has ls1 4 [(0, .ref (ad y0)), (1, .int y1), (2, .int y2), (3, .int y3)] → W p l e rmX1_countWiresOf s m args below meth c s.heap [] 0 0 (MQ below (QcS (some (.int r))) args s 0 0 (fun _ => False)) (F0 m 4 ls1 [])) : W p l e rmX1_countWiresOf s m args below meth c s.heap [] 0 0 (MQ below (QcS (some (.int r))) args s 0 0 (fun _ => False)) (F0 m 0 ls []) := by
  unfold bX1_countWiresOf_0 at hF
  obtain ⟨hx, hb, -, hown, -, hts, -⟩ := id C0
  refine lv_iconst (v := (0 : Int32)) hx hb dX1_countWiresOf_0 (by decide) ?_
  refine lv_istore_n (lv' := [(2, .int (0 : Int32)), (0, .ref (ad x0)), (1, .int x1)]) hx hb dX1_countWiresOf_1 rfl hl (by decide) rfl (fun ls hl => ?_)
  refine lv_iconst (v := (0 : Int32)) hx hb dX1_countWiresOf_2 (by decide) ?_
  refine lv_istore_n (lv' := [(3, .int (0 : Int32)), (2, .int (0 : Int32)), (0, .ref (ad x0)), (1, .int x1)]) hx hb dX1_countWiresOf_3 rfl hl (by decide) rfl (fun ls hl => ?_)
  exact Kh0 _ _ _ _ (Option.some.inj hF).symm _ (lv_sub hl [2, 3, 1, 0] rfl)
set_option maxHeartbeats 4000000 in
set_option maxRecDepth 100000 in
theorem wX1_countWiresOf_36 {p : Program} {l : Launch} {e : Env} {s : State} {m : MethodId} {args : Array Value} {below : List Frame} {meth : Method} {c : Code} {D : va_G} {cy : Nat → ClassId} (ad : Nat → Nat) (A : Nat → Prop) {S : MS} {r : Int32} {out : ((Nat × Int32 × Int32 × Int32) ⊕ Int32)} {ls : Array Slot} {x0 : Nat} {x1 : Int32} {x2 : Int32} {x3 : Int32} (C0 : CX p s m args meth c RX1 cX1_countWiresOf 4 D cy) (M : MW D cy ad A S s.heap) (hr : meth.sig.returnType = some .int) (hF : bX1_countWiresOf_36 S x0 x1 x2 x3 = some out) (hl : lv_has ls 4 [(0, .ref (ad x0)), (1, .int x1), (2, .int x2), (3, .int x3)]) (Kr : ∀ r9, out = .inr r9 → r9 = r) (Kh0 : ∀ (y0 : Nat) (y1 : Int32) (y2 : Int32) (y3 : Int32), out = .inl (y0, y1, y2, y3) → ∀ (ls1 : Array Slot), lv_has ls1 4 [(0, .ref (ad y0)), (1, .int y1), (2, .int y2), (3, .int y3)] → W p l e rmX1_countWiresOf s m args below meth c s.heap [] 0 0 (MQ below (QcS (some (.int r))) args s 0 0 (fun _ => False)) (F0 m 4 ls1 [])) : W p l e rmX1_countWiresOf s m args below meth c s.heap [] 0 0 (MQ below (QcS (some (.int r))) args s 0 0 (fun _ => False)) (F0 m 36 ls []) := by
  unfold bX1_countWiresOf_36 at hF
  obtain ⟨hx, hb, -, hown, -, hts, -⟩ := id C0
  obtain ⟨v36, hv, hF⟩ := ob hF
  refine lv_iinc (v := v36) (lv' := [(3, .int v36), (0, .ref (ad x0)), (1, .int x1), (2, .int x2)]) hx hb dX1_countWiresOf_36 hl (k := 3) rfl (by rw [← vtI hv]; rfl) (by decide) rfl (fun ls hl => ?_)
  refine lv_goto (tgt := 4) hx hb dX1_countWiresOf_39 (by decide) ?_
  exact Kh0 _ _ _ _ (Option.some.inj hF).symm _ (lv_sub hl [1, 2, 3, 0] rfl)
set_option maxHeartbeats 4000000 in
set_option maxRecDepth 100000 in
theorem wX1_countWiresOf_4 {p : Program} {l : Launch} {e : Env} {s : State} {m : MethodId} {args : Array Value} {below : List Frame} {meth : Method} {c : Code} {D : va_G} {cy : Nat → ClassId} (ad : Nat → Nat) (A : Nat → Prop) {S : MS} {r : Int32} {out : ((Nat × Int32 × Int32 × Int32) ⊕ Int32)} {ls : Array Slot} {x0 : Nat} {x1 : Int32} {x2 : Int32} {x3 : Int32} (C0 : CX p s m args meth c RX1 cX1_countWiresOf 4 D cy) (M : MW D cy ad A S s.heap) (hr : meth.sig.returnType = some .int) (hF : bX1_countWiresOf_4 S x0 x1 x2 x3 = some out) (hl : lv_has ls 4 [(0, .ref (ad x0)), (1, .int x1), (2, .int x2), (3, .int x3)]) (Kr : ∀ r9, out = .inr r9 → r9 = r) (Kh0 : ∀ (y0 : Nat) (y1 : Int32) (y2 : Int32) (y3 : Int32), out = .inl (y0, y1, y2, y3) → ∀ (ls1 : Array Slot), lv_has ls1 4 [(0, .ref (ad y0)), (1, .int y1), (2, .int y2), (3, .int y3)] → W p l e rmX1_countWiresOf s m args below meth c s.heap [] 0 0 (MQ below (QcS (some (.int r))) args s 0 0 (fun _ => False)) (F0 m 4 ls1 [])) : W p l e rmX1_countWiresOf s m args below meth c s.heap [] 0 0 (MQ below (QcS (some (.int r))) args s 0 0 (fun _ => False)) (F0 m 4 ls []) := by
  unfold bX1_countWiresOf_4 at hF
  obtain ⟨hx, hb, -, hown, -, hts, -⟩ := id C0
  refine lv_iload_n hx hb dX1_countWiresOf_4 rfl (lv_at hl 3 rfl) ?_
  refine lv_aload_n hx hb dX1_countWiresOf_5 rfl (lv_at hl 0 rfl) ?_
  obtain ⟨v6, hv, hF⟩ := ob hF
  refine k_getP C0 M hv fl_X1_18 dX1_countWiresOf_6 ?_
  obtain ⟨_, hrec, hF⟩ := ob hF
  obtain ⟨v9, hcl, hF⟩ := ob hF
  refine go_SI (r_V (rest := [.int x3]) (As := []) C0 cb_X1_44 M hrec (tJx4a65c_size_8abf5 l D cy ad A hcl) (pre_R C0 M) hl dX1_countWiresOf_9 rfl (Nat.le_of_ble_eq_true rfl) ⟨rfl, rfl⟩ ⟨Nat.le_of_ble_eq_true rfl, Nat.le_of_ble_eq_true rfl⟩ ⟨Nat.le_of_ble_eq_true rfl, Nat.le_of_ble_eq_true rfl⟩ rfl) ?_
  refine lv_icmp_ge (tgt := 42) hx hb dX1_countWiresOf_12 (by decide) (fun hc => ?_) (fun hc => ?_)
  · have hF := oi_t hc hF
    refine lv_iload_n hx hb dX1_countWiresOf_42 rfl (lv_at hl 2 rfl) ?_
    obtain rfl := (Kr _ (Option.some.inj hF).symm)
    exact rt_SI C0 hr dX1_countWiresOf_43
  · have hF := oi_f hc hF
    refine lv_aload_n hx hb dX1_countWiresOf_15 rfl (lv_at hl 0 rfl) ?_
    obtain ⟨v16, hv, hF⟩ := ob hF
    refine k_getP C0 M hv fl_X1_18 dX1_countWiresOf_16 ?_
    refine lv_iload_n hx hb dX1_countWiresOf_19 rfl (lv_at hl 3 rfl) ?_
    obtain ⟨_, hrec, hF⟩ := ob hF
    obtain ⟨v20, hcl, hF⟩ := ob hF
    refine go_SP (r_V (rest := []) (As := [.int x3]) C0 cb_X1_48 M hrec (tJx4a65c_get_915e3 l D cy ad A hcl) (pre_R C0 M) hl dX1_countWiresOf_20 rfl (Nat.le_of_ble_eq_true rfl) ⟨rfl, rfl⟩ ⟨Nat.le_of_ble_eq_true rfl, Nat.le_of_ble_eq_true rfl⟩ ⟨Nat.le_of_ble_eq_true rfl, Nat.le_of_ble_eq_true rfl⟩ rfl) ?_
    obtain ⟨v23, hv, hF⟩ := ob hF
    refine k_cast (C := RX8) (T := TX8) (N := 6) C0 M hv (by decide) rfl (uw_of 477 (by decide +kernel) rfl) dX1_countWiresOf_23 ?_
    obtain ⟨v26, hv, hF⟩ := ob hF
    refine k_getI C0 M hv fl_X1_54 dX1_countWiresOf_26 ?_
    refine lv_iload_n hx hb dX1_countWiresOf_29 rfl (lv_at hl 1 rfl) ?_
    refine lv_icmp_ne (tgt := 36) hx hb dX1_countWiresOf_30 (by decide) (fun hc => ?_) (fun hc => ?_)
    · have hF := oi_f hc hF
      exact wX1_countWiresOf_36 ad A C0 M hr hF (lv_sub hl [0, 1, 2, 3] rfl) Kr Kh0
    · have hF := oi_t hc hF
      obtain ⟨v33, hv, hF⟩ := ob hF
      refine lv_iinc (v := v33) (lv' := [(2, .int v33), (0, .ref (ad x0)), (1, .int x1), (3, .int x3)]) hx hb dX1_countWiresOf_33 hl (k := 2) rfl (by rw [← vtI hv]; rfl) (by decide) rfl (fun ls hl => ?_)
      exact wX1_countWiresOf_36 ad A C0 M hr hF (lv_sub hl [1, 2, 0, 3] rfl) Kr Kh0
set_option maxHeartbeats 4000000 in
set_option maxRecDepth 100000 in
theorem tX1_countWiresOf (l : Launch) (D : va_G) (cy : Nat → ClassId) (ad : Nat → Nat) (A : Nat → Prop) {S : MS} {a0 : Nat} {a1 : Int32} {r : Int32} (h : fX1_countWiresOf S a0 a1 = some r) : Met l yX1_countWiresOf [Cond.code yX1_countWiresOf cX1_countWiresOf 4 (some .int)] rmX1_countWiresOf (PcR D cy ad A S [.ref (ad a0), .int a1]) (QcS (some (.int r))) 0 0 (fun _ => False) := by
  refine met_R (by decide +kernel) cw_X1_countWiresOf (Nat.le_of_ble_eq_true rfl) ?_
  intro p e s m args below meth c ls C0 M hr hl
  have hl : lv_has ls 4 [(0, .ref (ad a0)), (1, .int a1)] := hl
  have key := lim_walk (step := sX1_countWiresOf S) (fun (q : (Nat × Int32 × Int32 × Int32)) (r9 : Int32) => ∀ (r : Int32), r9 = r → ((∀ (y0 : Nat) (y1 : Int32) (y2 : Int32) (y3 : Int32), q = (y0, y1, y2, y3) → ∀ (ls1 : Array Slot), lv_has ls1 4 [(0, .ref (ad y0)), (1, .int y1), (2, .int y2), (3, .int y3)] → W p l e rmX1_countWiresOf s m args below meth c s.heap [] 0 0 (MQ below (QcS (some (.int r))) args s 0 0 (fun _ => False)) (F0 m 4 ls1 [])))) ?_
  · unfold fX1_countWiresOf at h
    cases hs0 : bX1_countWiresOf_0 S a0 a1 with
    | none => rw [hs0] at h; cases h
    | some out =>
      rw [hs0] at h
      refine wX1_countWiresOf_0 ad A C0 M hr hs0 hl (fun r9 hr9 => ?_) ?_
      · subst hr9; exact Option.some.inj h
      · intro y0 y1 y2 y3 hq; subst hq; exact (key _ _ h _ rfl) _ _ _ _ rfl
  · intro q r9 out hst hre hin9
    intro r er; subst er
    refine ?_
    · intro y0 y1 y2 y3 hq ls1 hl
      subst hq
      exact wX1_countWiresOf_4 ad A C0 M hr hst hl hre (fun k0 k1 k2 k3 hk => (hin9 _ hk _ rfl) _ _ _ _ rfl)
set_option maxHeartbeats 4000000 in
set_option maxRecDepth 100000 in
theorem wX9_about_126 {p : Program} {l : Launch} {e : Env} {s : State} {m : MethodId} {args : Array Value} {below : List Frame} {meth : Method} {c : Code} {D : va_G} {cy : Nat → ClassId} (ad : Nat → Nat) (A : Nat → Prop) {S : MS} {S' : MS} {H : Heap} {locs : List Loc} {n0 : Nat} {r : Int32} {ls : Array Slot} {z0 : Int32} (C0 : CX p s m args meth c RX9 cX9_about 4 D cy) (M : ST D cy ad A s.heap (ZN n0 s.heap.size) S H locs) (hr : meth.sig.returnType = some .int) (hF : bX9_about_126 S z0 = some (r, S')) (hl : lv_has ls 4 []) : W p l e rmX9_about s m args below meth c H locs 0 0 (MQ below (QcM D cy ad A n0 S' (some (.int r))) args s 0 0 A) (F0 m 126 ls [.int z0]) := by
  unfold bX9_about_126 at hF
  obtain ⟨hx, hb, -, hown, -, hts, -⟩ := id C0
  obtain ⟨rfl, rfl⟩ := Prod.mk.inj (Option.some.inj hF)
  exact rt_MI C0 M hr dX9_about_126
set_option maxHeartbeats 4000000 in
set_option maxRecDepth 100000 in
theorem wX9_about_0 {p : Program} {l : Launch} {e : Env} {s : State} {m : MethodId} {args : Array Value} {below : List Frame} {meth : Method} {c : Code} {D : va_G} {cy : Nat → ClassId} (ad : Nat → Nat) (A : Nat → Prop) {S : MS} {S' : MS} {H : Heap} {locs : List Loc} {n0 : Nat} {r : Int32} {ls : Array Slot} {x0 : Nat} {x1 : Int32} {x2 : Int32} (C0 : CX p s m args meth c RX9 cX9_about 4 D cy) (M : ST D cy ad A s.heap (ZN n0 s.heap.size) S H locs) (hr : meth.sig.returnType = some .int) (hF : bX9_about_0 S x0 x1 x2 = some (r, S')) (hl : lv_has ls 4 [(0, .ref (ad x0)), (1, .int x1), (2, .int x2)]) : W p l e rmX9_about s m args below meth c H locs 0 0 (MQ below (QcM D cy ad A n0 S' (some (.int r))) args s 0 0 A) (F0 m 0 ls []) := by
  unfold bX9_about_0 at hF
  obtain ⟨hx, hb, -, hown, -, hts, -⟩ := id C0
  refine lv_aload_n hx hb dX9_about_0 rfl (lv_at hl 0 rfl) ?_
  refine lv_iload_n hx hb dX9_about_1 rfl (lv_at hl 1 rfl) ?_
  obtain ⟨_, hrec, hF⟩ := ob hF
  obtain ⟨v2, hcl, hF⟩ := ob hF
  refine go_SI (r_V (rest := []) (As := [.int x1]) C0 cb_X9_109 M.1 hrec (tX9_isPost l D cy ad A hcl) (pre_R C0 M.1) hl dX9_about_2 rfl (Nat.le_of_ble_eq_true rfl) ⟨rfl, rfl⟩ ⟨Nat.le_of_ble_eq_true rfl, Nat.le_of_ble_eq_true rfl⟩ ⟨Nat.le_of_ble_eq_true rfl, Nat.le_of_ble_eq_true rfl⟩ rfl) ?_
  refine lv_if_ne (tgt := 10) hx hb dX9_about_5 (by decide) (fun hc => ?_) (fun hc => ?_)
  · have hF := oi_f hc hF
    refine lv_aload_n hx hb dX9_about_10 rfl (lv_at hl 0 rfl) ?_
    obtain ⟨v11, hv, hF⟩ := ob hF
    refine k_getP C0 M.1 hv fl_X9_12 dX9_about_11 ?_
    obtain ⟨v14, hv, hF⟩ := ob hF
    refine k_getP C0 M.1 hv fl_X9_90 dX9_about_14 ?_
    refine lv_iload_n hx hb dX9_about_17 rfl (lv_at hl 1 rfl) ?_
    obtain ⟨_, hrec, hF⟩ := ob hF
    obtain ⟨v18, hcl, hF⟩ := ob hF
    refine go_SP (r_V (rest := []) (As := [.int x1]) C0 cb_X9_113 M.1 hrec (tJx4a65c_get_915e3 l D cy ad A hcl) (pre_R C0 M.1) hl dX9_about_18 rfl (Nat.le_of_ble_eq_true rfl) ⟨rfl, rfl⟩ ⟨Nat.le_of_ble_eq_true rfl, Nat.le_of_ble_eq_true rfl⟩ ⟨Nat.le_of_ble_eq_true rfl, Nat.le_of_ble_eq_true rfl⟩ rfl) ?_
    obtain ⟨v21, hv, hF⟩ := ob hF
    refine k_cast (C := RX6) (T := TX6) (N := 6) C0 M.1 hv (by decide) rfl (uw_of 345 (by decide +kernel) rfl) dX9_about_21 ?_
    refine lv_astore_n (lv' := [(3, .ref (ad v21)), (0, .ref (ad x0)), (1, .int x1), (2, .int x2)]) hx hb dX9_about_24 rfl hl (by decide) rfl (fun ls hl => ?_)
    refine lv_iload_n hx hb dX9_about_25 rfl (lv_at hl 3 rfl) ?_
    by_cases hc0 : x2 = (0 : Int32)
    · have hF := oi_t hc0 hF
      refine lv_tableIn (tgt := 68) (off := 42) hx hb dX9_about_26 (by rw [hc0]; decide) (by rw [hc0]; decide) (by rw [hc0]; rfl) (by decide) ?_
      refine lv_aload_n hx hb dX9_about_68 rfl (lv_at hl 0 rfl) ?_
      obtain ⟨v69, hv, hF⟩ := ob hF
      refine k_getI C0 M.1 hv fl_X9_117 dX9_about_69 ?_
      obtain ⟨rfl, rfl⟩ := Prod.mk.inj (Option.some.inj hF)
      exact rt_MI C0 M hr dX9_about_72
    have hF := oi_f hc0 hF
    by_cases hc1 : x2 = (1 : Int32)
    · have hF := oi_t hc1 hF
      refine lv_tableIn (tgt := 73) (off := 47) hx hb dX9_about_26 (by rw [hc1]; decide) (by rw [hc1]; decide) (by rw [hc1]; rfl) (by decide) ?_
      refine lv_aload_n hx hb dX9_about_73 rfl (lv_at hl 0 rfl) ?_
      obtain ⟨v74, hv, hF⟩ := ob hF
      refine k_getI C0 M.1 hv fl_X9_120 dX9_about_74 ?_
      obtain ⟨rfl, rfl⟩ := Prod.mk.inj (Option.some.inj hF)
      exact rt_MI C0 M hr dX9_about_77
    have hF := oi_f hc1 hF
    by_cases hc2 : x2 = (2 : Int32)
    · have hF := oi_t hc2 hF
      refine lv_tableIn (tgt := 78) (off := 52) hx hb dX9_about_26 (by rw [hc2]; decide) (by rw [hc2]; decide) (by rw [hc2]; rfl) (by decide) ?_
      refine lv_aload_n hx hb dX9_about_78 rfl (lv_at hl 0 rfl) ?_
      obtain ⟨v79, hv, hF⟩ := ob hF
      refine k_getI C0 M.1 hv fl_X9_123 dX9_about_79 ?_
      obtain ⟨rfl, rfl⟩ := Prod.mk.inj (Option.some.inj hF)
      exact rt_MI C0 M hr dX9_about_82
    have hF := oi_f hc2 hF
    by_cases hc3 : x2 = (3 : Int32)
    · have hF := oi_t hc3 hF
      refine lv_tableIn (tgt := 83) (off := 57) hx hb dX9_about_26 (by rw [hc3]; decide) (by rw [hc3]; decide) (by rw [hc3]; rfl) (by decide) ?_
      refine lv_aload_n hx hb dX9_about_83 rfl (lv_at hl 0 rfl) ?_
      obtain ⟨v84, hv, hF⟩ := ob hF
      refine k_getI C0 M.1 hv fl_X9_126 dX9_about_84 ?_
      obtain ⟨rfl, rfl⟩ := Prod.mk.inj (Option.some.inj hF)
      exact rt_MI C0 M hr dX9_about_87
    have hF := oi_f hc3 hF
    by_cases hc4 : x2 = (4 : Int32)
    · have hF := oi_t hc4 hF
      refine lv_tableIn (tgt := 88) (off := 62) hx hb dX9_about_26 (by rw [hc4]; decide) (by rw [hc4]; decide) (by rw [hc4]; rfl) (by decide) ?_
      refine lv_aload_n hx hb dX9_about_88 rfl (lv_at hl 1 rfl) ?_
      obtain ⟨v89, hv, hF⟩ := ob hF
      refine k_getP C0 M.1 hv fl_X9_12 dX9_about_89 ?_
      refine lv_iload_n hx hb dX9_about_92 rfl (lv_at hl 2 rfl) ?_
      obtain ⟨_, hrec, hF⟩ := ob hF
      obtain ⟨v93, hcl, hF⟩ := ob hF
      refine go_SI (r_V (rest := []) (As := [.int x1]) C0 cb_X9_129 M.1 hrec (tX1_countWiresOf l D cy ad A hcl) (pre_R C0 M.1) hl dX9_about_93 rfl (Nat.le_of_ble_eq_true rfl) ⟨rfl, rfl⟩ ⟨Nat.le_of_ble_eq_true rfl, Nat.le_of_ble_eq_true rfl⟩ ⟨Nat.le_of_ble_eq_true rfl, Nat.le_of_ble_eq_true rfl⟩ rfl) ?_
      obtain ⟨rfl, rfl⟩ := Prod.mk.inj (Option.some.inj hF)
      exact rt_MI C0 M hr dX9_about_96
    have hF := oi_f hc4 hF
    by_cases hc5 : x2 = (5 : Int32)
    · have hF := oi_t hc5 hF
      refine lv_tableIn (tgt := 97) (off := 71) hx hb dX9_about_26 (by rw [hc5]; decide) (by rw [hc5]; decide) (by rw [hc5]; rfl) (by decide) ?_
      refine lv_aload_n hx hb dX9_about_97 rfl (lv_at hl 1 rfl) ?_
      obtain ⟨v98, hv, hF⟩ := ob hF
      refine k_getP C0 M.1 hv fl_X9_12 dX9_about_98 ?_
      obtain ⟨v101, hv, hF⟩ := ob hF
      refine k_getP C0 M.1 hv fl_X9_133 dX9_about_101 ?_
      refine lv_iload_n hx hb dX9_about_104 rfl (lv_at hl 2 rfl) ?_
      obtain ⟨v105, hv, hF⟩ := ob hF
      refine k_ld C0 M.1 hv dX9_about_105 ?_
      obtain ⟨rfl, rfl⟩ := Prod.mk.inj (Option.some.inj hF)
      exact rt_MI C0 M hr dX9_about_106
    have hF := oi_f hc5 hF
    by_cases hc6 : x2 = (6 : Int32)
    · have hF := oi_t hc6 hF
      refine lv_tableIn (tgt := 107) (off := 81) hx hb dX9_about_26 (by rw [hc6]; decide) (by rw [hc6]; decide) (by rw [hc6]; rfl) (by decide) ?_
      refine lv_aload_n hx hb dX9_about_107 rfl (lv_at hl 1 rfl) ?_
      obtain ⟨_, hrec, hF⟩ := ob hF
      obtain ⟨v108, S108, hcl, hF⟩ := ob2 hF
      refine go_MP (r_V (rest := []) (As := []) C0 cb_X9_137 M.1 hrec (tX9_settledChart l D cy ad A hcl) (pre_R C0 M.1) hl dX9_about_108 rfl (Nat.le_of_ble_eq_true rfl) ⟨rfl, rfl⟩ ⟨Nat.le_of_ble_eq_true rfl, Nat.le_of_ble_eq_true rfl⟩ ⟨Nat.le_of_ble_eq_true rfl, Nat.le_of_ble_eq_true rfl⟩ rfl) M (fun H locs M => ?_)
      obtain ⟨v111, hv, hF⟩ := ob hF
      refine k_getI C0 M.1 hv fl_X9_141 dX9_about_111 ?_
      refine lv_iload_n hx hb dX9_about_114 rfl (lv_at hl 2 rfl) ?_
      obtain ⟨v115, hcl, hF⟩ := ob hF
      refine go_SI (r_S (rest := []) (As := [.int v111, .int x1]) C0 cb_X9_144 (tX9_isIn l D cy ad hcl) (pre_S C0) hl dX9_about_115 rfl (Nat.le_of_ble_eq_true rfl) ⟨rfl, rfl⟩ ⟨Nat.le_of_ble_eq_true rfl, Nat.le_of_ble_eq_true rfl⟩ ⟨Nat.le_of_ble_eq_true rfl, Nat.le_of_ble_eq_true rfl⟩ rfl) ?_
      refine lv_if_eq (tgt := 125) hx hb dX9_about_118 (by decide) (fun hc => ?_) (fun hc => ?_)
      · have hF := oi_t hc hF
        refine lv_iconst (v := (0 : Int32)) hx hb dX9_about_125 (by decide) ?_
        exact wX9_about_126 ad A C0 M hr hF (lv_sub hl [] rfl)
      · have hF := oi_f hc hF
        refine lv_iconst (v := (1 : Int32)) hx hb dX9_about_121 (by decide) ?_
        refine lv_goto (tgt := 126) hx hb dX9_about_122 (by decide) ?_
        exact wX9_about_126 ad A C0 M hr hF (lv_sub hl [] rfl)
    have hF := oi_f hc6 hF
    refine lv_tableOut (tgt := 127) hx hb dX9_about_26 (tsw (x := x2) (n := 7) (by decide) (fun k hk => by rcases (show k = 0 ∨ k = 1 ∨ k = 2 ∨ k = 3 ∨ k = 4 ∨ k = 5 ∨ k = 6 by omega) with rfl | rfl | rfl | rfl | rfl | rfl | rfl <;> first | exact hc0 | exact hc1 | exact hc2 | exact hc3 | exact hc4 | exact hc5 | exact hc6)) (by decide) ?_
    refine lv_bipush (v := (-2 : Int32)) hx hb dX9_about_127 (by decide) ?_
    obtain ⟨rfl, rfl⟩ := Prod.mk.inj (Option.some.inj hF)
    exact rt_MI C0 M hr dX9_about_129
  · have hF := oi_t hc hF
    refine lv_iconst (v := (-1 : Int32)) hx hb dX9_about_8 (by decide) ?_
    obtain ⟨rfl, rfl⟩ := Prod.mk.inj (Option.some.inj hF)
    exact rt_MI C0 M hr dX9_about_9
set_option maxHeartbeats 4000000 in
set_option maxRecDepth 100000 in
theorem tX9_about (l : Launch) (D : va_G) (cy : Nat → ClassId) (ad : Nat → Nat) (A : Nat → Prop) {S S' : MS} {a0 : Nat} {a1 : Int32} {a2 : Int32} {r : Int32} (h : fX9_about S a0 a1 a2 = some (r, S')) : Met l yX9_about [Cond.code yX9_about cX9_about 4 (some .int)] rmX9_about (PcR D cy ad A S [.ref (ad a0), .int a1, .int a2]) (QcM D cy ad A (m_n S) S' (some (.int r))) 0 0 A := by
  refine met_M (by decide +kernel) cw_X9_about (Nat.le_of_ble_eq_true rfl) ?_
  intro p e s m args below meth c ls C0 M hr hin hl
  have hl : lv_has ls 4 [(0, .ref (ad a0)), (1, .int a1), (2, .int a2)] := hl
  exact wX9_about_0 ad A C0 M hr h hl
set_option maxHeartbeats 4000000 in
set_option maxRecDepth 100000 in
theorem wX9_comeTo_0 {p : Program} {l : Launch} {e : Env} {s : State} {m : MethodId} {args : Array Value} {below : List Frame} {meth : Method} {c : Code} {D : va_G} {cy : Nat → ClassId} (ad : Nat → Nat) (A : Nat → Prop) {S : MS} {S' : MS} {H : Heap} {locs : List Loc} {n0 : Nat} {r : Int32} {ls : Array Slot} {x0 : Nat} {x1 : Int32} (C0 : CX p s m args meth c RX9 cX9_comeTo 2 D cy) (M : ST D cy ad A s.heap (ZN n0 s.heap.size) S H locs) (hr : meth.sig.returnType = some .int) (hF : bX9_comeTo_0 S x0 x1 = some (r, S')) (hl : lv_has ls 2 [(0, .ref (ad x0)), (1, .int x1)]) : W p l e rmX9_comeTo s m args below meth c H locs 0 0 (MQ below (QcM D cy ad A n0 S' (some (.int r))) args s 0 0 A) (F0 m 0 ls []) := by
  unfold bX9_comeTo_0 at hF
  obtain ⟨hx, hb, -, hown, -, hts, -⟩ := id C0
  refine lv_aload_n hx hb dX9_comeTo_0 rfl (lv_at hl 0 rfl) ?_
  refine lv_iload_n hx hb dX9_comeTo_1 rfl (lv_at hl 1 rfl) ?_
  obtain ⟨S2, hv, hF⟩ := ob hF
  refine k_sI C0 M hv fl_X9_76 dX9_comeTo_2 (fun H locs M => ?_)
  refine lv_bipush (v := (-10 : Int32)) hx hb dX9_comeTo_5 (by decide) ?_
  refine lv_iload_n hx hb dX9_comeTo_7 rfl (lv_at hl 1 rfl) ?_
  refine lv_isub hx hb dX9_comeTo_8 ?_
  obtain ⟨rfl, rfl⟩ := Prod.mk.inj (Option.some.inj hF)
  exact rt_MI C0 M hr dX9_comeTo_9
set_option maxHeartbeats 4000000 in
set_option maxRecDepth 100000 in
theorem tX9_comeTo (l : Launch) (D : va_G) (cy : Nat → ClassId) (ad : Nat → Nat) (A : Nat → Prop) {S S' : MS} {a0 : Nat} {a1 : Int32} {r : Int32} (h : fX9_comeTo S a0 a1 = some (r, S')) : Met l yX9_comeTo [Cond.code yX9_comeTo cX9_comeTo 2 (some .int)] rmX9_comeTo (PcR D cy ad A S [.ref (ad a0), .int a1]) (QcM D cy ad A (m_n S) S' (some (.int r))) 0 0 A := by
  refine met_M (by decide +kernel) cw_X9_comeTo (Nat.le_of_ble_eq_true rfl) ?_
  intro p e s m args below meth c ls C0 M hr hin hl
  have hl : lv_has ls 2 [(0, .ref (ad a0)), (1, .int a1)] := hl
  exact wX9_comeTo_0 ad A C0 M hr h hl
set_option maxHeartbeats 4000000 in
set_option maxRecDepth 100000 in
theorem wX9_as_0 {p : Program} {l : Launch} {e : Env} {s : State} {m : MethodId} {args : Array Value} {below : List Frame} {meth : Method} {c : Code} {D : va_G} {cy : Nat → ClassId} (ad : Nat → Nat) (A : Nat → Prop) {S : MS} {S' : MS} {H : Heap} {locs : List Loc} {n0 : Nat} {r : Int32} {ls : Array Slot} {x0 : Nat} {x1 : Int32} {x2 : Int32} (C0 : CX p s m args meth c RX9 cX9_as 3 D cy) (M : ST D cy ad A s.heap (ZN n0 s.heap.size) S H locs) (hr : meth.sig.returnType = some .int) (hF : bX9_as_0 S x0 x1 x2 = some (r, S')) (hl : lv_has ls 3 [(0, .ref (ad x0)), (1, .int x1), (2, .int x2)]) : W p l e rmX9_as s m args below meth c H locs 0 0 (MQ below (QcM D cy ad A n0 S' (some (.int r))) args s 0 0 A) (F0 m 0 ls []) := by
  unfold bX9_as_0 at hF
  obtain ⟨hx, hb, -, hown, -, hts, -⟩ := id C0
  refine lv_aload_n hx hb dX9_as_0 rfl (lv_at hl 0 rfl) ?_
  refine lv_iconst (v := (0 : Int32)) hx hb dX9_as_1 (by decide) ?_
  obtain ⟨S2, hv, hF⟩ := ob hF
  refine k_sI C0 M hv fl_X9_76 dX9_as_2 (fun H locs M => ?_)
  refine lv_aload_n hx hb dX9_as_5 rfl (lv_at hl 0 rfl) ?_
  refine lv_iload_n hx hb dX9_as_6 rfl (lv_at hl 1 rfl) ?_
  obtain ⟨_, hrec, hF⟩ := ob hF
  obtain ⟨v7, hcl, hF⟩ := ob hF
  refine go_SI (r_V (rest := []) (As := [.int x1]) C0 cb_X9_109 M.1 hrec (tX9_isPost l D cy ad A hcl) (pre_R C0 M.1) hl dX9_as_7 rfl (Nat.le_of_ble_eq_true rfl) ⟨rfl, rfl⟩ ⟨Nat.le_of_ble_eq_true rfl, Nat.le_of_ble_eq_true rfl⟩ ⟨Nat.le_of_ble_eq_true rfl, Nat.le_of_ble_eq_true rfl⟩ rfl) ?_
  refine lv_if_ne (tgt := 15) hx hb dX9_as_10 (by decide) (fun hc => ?_) (fun hc => ?_)
  · have hF := oi_f hc hF
    refine lv_iload_n hx hb dX9_as_15 rfl (lv_at hl 2 rfl) ?_
    refine lv_iconst (v := (3 : Int32)) hx hb dX9_as_16 (by decide) ?_
    obtain ⟨v17, hcl, hF⟩ := ob hF
    refine go_SI (r_S (rest := []) (As := [.int x2, .int (3 : Int32)]) C0 cb_X9_79 (tX9_isBelow l D cy ad hcl) (pre_S C0) hl dX9_as_17 rfl (Nat.le_of_ble_eq_true rfl) ⟨rfl, rfl⟩ ⟨Nat.le_of_ble_eq_true rfl, Nat.le_of_ble_eq_true rfl⟩ ⟨Nat.le_of_ble_eq_true rfl, Nat.le_of_ble_eq_true rfl⟩ rfl) ?_
    refine lv_if_ne (tgt := 26) hx hb dX9_as_20 (by decide) (fun hc => ?_) (fun hc => ?_)
    · have hF := oi_f hc hF
      refine lv_aload_n hx hb dX9_as_26 rfl (lv_at hl 0 rfl) ?_
      obtain ⟨v27, hv, hF⟩ := ob hF
      refine k_getP C0 M.1 hv fl_X9_12 dX9_as_27 ?_
      obtain ⟨v30, hv, hF⟩ := ob hF
      refine k_getP C0 M.1 hv fl_X9_90 dX9_as_30 ?_
      refine lv_iload_n hx hb dX9_as_33 rfl (lv_at hl 1 rfl) ?_
      obtain ⟨_, hrec, hF⟩ := ob hF
      obtain ⟨v34, hcl, hF⟩ := ob hF
      refine go_SP (r_V (rest := []) (As := [.int x1]) C0 cb_X9_113 M.1 hrec (tJx4a65c_get_915e3 l D cy ad A hcl) (pre_R C0 M.1) hl dX9_as_34 rfl (Nat.le_of_ble_eq_true rfl) ⟨rfl, rfl⟩ ⟨Nat.le_of_ble_eq_true rfl, Nat.le_of_ble_eq_true rfl⟩ ⟨Nat.le_of_ble_eq_true rfl, Nat.le_of_ble_eq_true rfl⟩ rfl) ?_
      obtain ⟨v37, hv, hF⟩ := ob hF
      refine k_cast (C := RX6) (T := TX6) (N := 6) C0 M.1 hv (by decide) rfl (uw_of 345 (by decide +kernel) rfl) dX9_as_37 ?_
      obtain ⟨v40, hv, hF⟩ := ob hF
      refine k_getI C0 M.1 hv fl_X9_117 dX9_as_40 ?_
      refine lv_iload_n hx hb dX9_as_43 rfl (lv_at hl 2 rfl) ?_
      refine lv_icmp_ge (tgt := 53) hx hb dX9_as_44 (by decide) (fun hc => ?_) (fun hc => ?_)
      · have hF := oi_t hc hF
        refine lv_iconst (v := (1 : Int32)) hx hb dX9_as_53 (by decide) ?_
        obtain ⟨rfl, rfl⟩ := Prod.mk.inj (Option.some.inj hF)
        exact rt_MI C0 M hr dX9_as_54
      · have hF := oi_f hc hF
        refine lv_aload_n hx hb dX9_as_47 rfl (lv_at hl 0 rfl) ?_
        refine lv_iconst (v := (2 : Int32)) hx hb dX9_as_48 (by decide) ?_
        obtain ⟨_, hrec, hF⟩ := ob hF
        obtain ⟨v49, S49, hcl, hF⟩ := ob2 hF
        refine go_MI (r_V (rest := []) (As := [.int (2 : Int32)]) C0 cb_X9_159 M.1 hrec (tX9_comeTo l D cy ad A hcl) (pre_R C0 M.1) hl dX9_as_49 rfl (Nat.le_of_ble_eq_true rfl) ⟨rfl, rfl⟩ ⟨Nat.le_of_ble_eq_true rfl, Nat.le_of_ble_eq_true rfl⟩ ⟨Nat.le_of_ble_eq_true rfl, Nat.le_of_ble_eq_true rfl⟩ rfl) M (fun H locs M => ?_)
        obtain ⟨rfl, rfl⟩ := Prod.mk.inj (Option.some.inj hF)
        exact rt_MI C0 M hr dX9_as_52
    · have hF := oi_t hc hF
      refine lv_bipush (v := (-2 : Int32)) hx hb dX9_as_23 (by decide) ?_
      obtain ⟨rfl, rfl⟩ := Prod.mk.inj (Option.some.inj hF)
      exact rt_MI C0 M hr dX9_as_25
  · have hF := oi_t hc hF
    refine lv_iconst (v := (-1 : Int32)) hx hb dX9_as_13 (by decide) ?_
    obtain ⟨rfl, rfl⟩ := Prod.mk.inj (Option.some.inj hF)
    exact rt_MI C0 M hr dX9_as_14
set_option maxHeartbeats 4000000 in
set_option maxRecDepth 100000 in
theorem tX9_as (l : Launch) (D : va_G) (cy : Nat → ClassId) (ad : Nat → Nat) (A : Nat → Prop) {S S' : MS} {a0 : Nat} {a1 : Int32} {a2 : Int32} {r : Int32} (h : fX9_as S a0 a1 a2 = some (r, S')) : Met l yX9_as [Cond.code yX9_as cX9_as 3 (some .int)] rmX9_as (PcR D cy ad A S [.ref (ad a0), .int a1, .int a2]) (QcM D cy ad A (m_n S) S' (some (.int r))) 0 0 A := by
  refine met_M (by decide +kernel) cw_X9_as (Nat.le_of_ble_eq_true rfl) ?_
  intro p e s m args below meth c ls C0 M hr hin hl
  have hl : lv_has ls 3 [(0, .ref (ad a0)), (1, .int a1), (2, .int a2)] := hl
  exact wX9_as_0 ad A C0 M hr h hl
