theorem fl_X10_7 : FL RX10 7 11 2 2 (.array .int) 1 := ⟨RX10, "ChartRoomModel", TX10, 58, tyX10, rfl, iu_11, tyX10_ok, nmX10, by decide, rfl, by decide, (uw_of 1073 (by decide +kernel) rfl), Or.inl rfl, tyX10_ok 2 (by decide), (fun h => by cases h), (fun _ => ⟨rfl, rfl⟩), rfl⟩
theorem fl_X10_13 : FL RX10 13 11 3 2 (.array .int) 1 := ⟨RX10, "ChartRoomModel", TX10, 58, tyX10, rfl, iu_11, tyX10_ok, nmX10, by decide, rfl, by decide, (uw_of 1074 (by decide +kernel) rfl), Or.inl rfl, tyX10_ok 3 (by decide), (fun h => by cases h), (fun _ => ⟨rfl, rfl⟩), rfl⟩
theorem fl_X10_16 : FL RX10 16 11 4 2 (.array .int) 1 := ⟨RX10, "ChartRoomModel", TX10, 58, tyX10, rfl, iu_11, tyX10_ok, nmX10, by decide, rfl, by decide, (uw_of 1075 (by decide +kernel) rfl), Or.inl rfl, tyX10_ok 4 (by decide), (fun h => by cases h), (fun _ => ⟨rfl, rfl⟩), rfl⟩
theorem fl_X10_19 : FL RX10 19 11 5 2 (.array .int) 1 := ⟨RX10, "ChartRoomModel", TX10, 58, tyX10, rfl, iu_11, tyX10_ok, nmX10, by decide, rfl, by decide, (uw_of 1076 (by decide +kernel) rfl), Or.inl rfl, tyX10_ok 5 (by decide), (fun h => by cases h), (fun _ => ⟨rfl, rfl⟩), rfl⟩
theorem fl_X10_22 : FL RX10 22 11 6 2 (.array .int) 1 := ⟨RX10, "ChartRoomModel", TX10, 58, tyX10, rfl, iu_11, tyX10_ok, nmX10, by decide, rfl, by decide, (uw_of 1077 (by decide +kernel) rfl), Or.inl rfl, tyX10_ok 6 (by decide), (fun h => by cases h), (fun _ => ⟨rfl, rfl⟩), rfl⟩
theorem fl_X10_25 : FL RX10 25 11 7 2 (.array .int) 1 := ⟨RX10, "ChartRoomModel", TX10, 58, tyX10, rfl, iu_11, tyX10_ok, nmX10, by decide, rfl, by decide, (uw_of 1078 (by decide +kernel) rfl), Or.inl rfl, tyX10_ok 7 (by decide), (fun h => by cases h), (fun _ => ⟨rfl, rfl⟩), rfl⟩
theorem fl_X10_28 : FL RX10 28 11 9 2 (.array .int) 1 := ⟨RX10, "ChartRoomModel", TX10, 58, tyX10, rfl, iu_11, tyX10_ok, nmX10, by decide, rfl, by decide, (uw_of 1080 (by decide +kernel) rfl), Or.inl rfl, tyX10_ok 9 (by decide), (fun h => by cases h), (fun _ => ⟨rfl, rfl⟩), rfl⟩
theorem fl_X10_31 : FL RX10 31 11 10 2 (.array .int) 1 := ⟨RX10, "ChartRoomModel", TX10, 58, tyX10, rfl, iu_11, tyX10_ok, nmX10, by decide, rfl, by decide, (uw_of 1081 (by decide +kernel) rfl), Or.inl rfl, tyX10_ok 10 (by decide), (fun h => by cases h), (fun _ => ⟨rfl, rfl⟩), rfl⟩
theorem fl_X10_34 : FL RX10 34 11 11 2 (.array .int) 1 := ⟨RX10, "ChartRoomModel", TX10, 58, tyX10, rfl, iu_11, tyX10_ok, nmX10, by decide, rfl, by decide, (uw_of 1082 (by decide +kernel) rfl), Or.inl rfl, tyX10_ok 11 (by decide), (fun h => by cases h), (fun _ => ⟨rfl, rfl⟩), rfl⟩
theorem fl_X10_37 : FL RX10 37 11 12 2 (.array .int) 1 := ⟨RX10, "ChartRoomModel", TX10, 58, tyX10, rfl, iu_11, tyX10_ok, nmX10, by decide, rfl, by decide, (uw_of 1083 (by decide +kernel) rfl), Or.inl rfl, tyX10_ok 12 (by decide), (fun h => by cases h), (fun _ => ⟨rfl, rfl⟩), rfl⟩
theorem fl_X10_40 : FL RX10 40 11 13 2 (.array .int) 1 := ⟨RX10, "ChartRoomModel", TX10, 58, tyX10, rfl, iu_11, tyX10_ok, nmX10, by decide, rfl, by decide, (uw_of 1084 (by decide +kernel) rfl), Or.inl rfl, tyX10_ok 13 (by decide), (fun h => by cases h), (fun _ => ⟨rfl, rfl⟩), rfl⟩
theorem fl_X10_43 : FL RX10 43 11 14 2 (.array .int) 1 := ⟨RX10, "ChartRoomModel", TX10, 58, tyX10, rfl, iu_11, tyX10_ok, nmX10, by decide, rfl, by decide, (uw_of 1085 (by decide +kernel) rfl), Or.inl rfl, tyX10_ok 14 (by decide), (fun h => by cases h), (fun _ => ⟨rfl, rfl⟩), rfl⟩
theorem fl_X10_46 : FL RX10 46 11 20 2 (.array .int) 1 := ⟨RX10, "ChartRoomModel", TX10, 58, tyX10, rfl, iu_11, tyX10_ok, nmX10, by decide, rfl, by decide, (uw_of 1091 (by decide +kernel) rfl), Or.inl rfl, tyX10_ok 20 (by decide), (fun h => by cases h), (fun _ => ⟨rfl, rfl⟩), rfl⟩
theorem fl_X10_49 : FL RX10 49 11 21 2 (.array .int) 1 := ⟨RX10, "ChartRoomModel", TX10, 58, tyX10, rfl, iu_11, tyX10_ok, nmX10, by decide, rfl, by decide, (uw_of 1092 (by decide +kernel) rfl), Or.inl rfl, tyX10_ok 21 (by decide), (fun h => by cases h), (fun _ => ⟨rfl, rfl⟩), rfl⟩
theorem fl_X10_52 : FL RX10 52 11 22 2 (.array .int) 1 := ⟨RX10, "ChartRoomModel", TX10, 58, tyX10, rfl, iu_11, tyX10_ok, nmX10, by decide, rfl, by decide, (uw_of 1093 (by decide +kernel) rfl), Or.inl rfl, tyX10_ok 22 (by decide), (fun h => by cases h), (fun _ => ⟨rfl, rfl⟩), rfl⟩
theorem fl_X10_55 : FL RX10 55 11 24 2 (.array .int) 1 := ⟨RX10, "ChartRoomModel", TX10, 58, tyX10, rfl, iu_11, tyX10_ok, nmX10, by decide, rfl, by decide, (uw_of 1095 (by decide +kernel) rfl), Or.inl rfl, tyX10_ok 24 (by decide), (fun h => by cases h), (fun _ => ⟨rfl, rfl⟩), rfl⟩
theorem fl_X10_58 : FL RX10 58 11 25 2 (.array .int) 1 := ⟨RX10, "ChartRoomModel", TX10, 58, tyX10, rfl, iu_11, tyX10_ok, nmX10, by decide, rfl, by decide, (uw_of 1096 (by decide +kernel) rfl), Or.inl rfl, tyX10_ok 25 (by decide), (fun h => by cases h), (fun _ => ⟨rfl, rfl⟩), rfl⟩
theorem fl_X10_61 : FL RX10 61 11 26 2 (.array .int) 1 := ⟨RX10, "ChartRoomModel", TX10, 58, tyX10, rfl, iu_11, tyX10_ok, nmX10, by decide, rfl, by decide, (uw_of 1097 (by decide +kernel) rfl), Or.inl rfl, tyX10_ok 26 (by decide), (fun h => by cases h), (fun _ => ⟨rfl, rfl⟩), rfl⟩
theorem fl_X10_64 : FL RX10 64 11 27 2 (.array .boolean) 1 := ⟨RX10, "ChartRoomModel", TX10, 58, tyX10, rfl, iu_11, tyX10_ok, nmX10, by decide, rfl, by decide, (uw_of 1098 (by decide +kernel) rfl), Or.inl rfl, tyX10_ok 27 (by decide), (fun h => by cases h), (fun _ => ⟨rfl, rfl⟩), rfl⟩
theorem fl_X10_68 : FL RX10 68 11 28 2 (.array .int) 1 := ⟨RX10, "ChartRoomModel", TX10, 58, tyX10, rfl, iu_11, tyX10_ok, nmX10, by decide, rfl, by decide, (uw_of 1099 (by decide +kernel) rfl), Or.inl rfl, tyX10_ok 28 (by decide), (fun h => by cases h), (fun _ => ⟨rfl, rfl⟩), rfl⟩
theorem fl_X10_71 : FL RX10 71 11 29 2 (.array .int) 1 := ⟨RX10, "ChartRoomModel", TX10, 58, tyX10, rfl, iu_11, tyX10_ok, nmX10, by decide, rfl, by decide, (uw_of 1100 (by decide +kernel) rfl), Or.inl rfl, tyX10_ok 29 (by decide), (fun h => by cases h), (fun _ => ⟨rfl, rfl⟩), rfl⟩
theorem fl_X10_74 : FL RX10 74 11 30 2 (.array .int) 1 := ⟨RX10, "ChartRoomModel", TX10, 58, tyX10, rfl, iu_11, tyX10_ok, nmX10, by decide, rfl, by decide, (uw_of 1101 (by decide +kernel) rfl), Or.inl rfl, tyX10_ok 30 (by decide), (fun h => by cases h), (fun _ => ⟨rfl, rfl⟩), rfl⟩
theorem fl_X10_77 : FL RX10 77 11 31 2 (.array .int) 1 := ⟨RX10, "ChartRoomModel", TX10, 58, tyX10, rfl, iu_11, tyX10_ok, nmX10, by decide, rfl, by decide, (uw_of 1102 (by decide +kernel) rfl), Or.inl rfl, tyX10_ok 31 (by decide), (fun h => by cases h), (fun _ => ⟨rfl, rfl⟩), rfl⟩
theorem fl_X10_80 : FL RX10 80 11 32 2 (.array .int) 1 := ⟨RX10, "ChartRoomModel", TX10, 58, tyX10, rfl, iu_11, tyX10_ok, nmX10, by decide, rfl, by decide, (uw_of 1103 (by decide +kernel) rfl), Or.inl rfl, tyX10_ok 32 (by decide), (fun h => by cases h), (fun _ => ⟨rfl, rfl⟩), rfl⟩
theorem fl_X10_83 : FL RX10 83 11 33 2 (.array .int) 1 := ⟨RX10, "ChartRoomModel", TX10, 58, tyX10, rfl, iu_11, tyX10_ok, nmX10, by decide, rfl, by decide, (uw_of 1104 (by decide +kernel) rfl), Or.inl rfl, tyX10_ok 33 (by decide), (fun h => by cases h), (fun _ => ⟨rfl, rfl⟩), rfl⟩
theorem fl_X10_86 : FL RX10 86 11 34 2 (.array .int) 1 := ⟨RX10, "ChartRoomModel", TX10, 58, tyX10, rfl, iu_11, tyX10_ok, nmX10, by decide, rfl, by decide, (uw_of 1105 (by decide +kernel) rfl), Or.inl rfl, tyX10_ok 34 (by decide), (fun h => by cases h), (fun _ => ⟨rfl, rfl⟩), rfl⟩
theorem fl_X10_89 : FL RX10 89 11 35 2 (.array .int) 1 := ⟨RX10, "ChartRoomModel", TX10, 58, tyX10, rfl, iu_11, tyX10_ok, nmX10, by decide, rfl, by decide, (uw_of 1106 (by decide +kernel) rfl), Or.inl rfl, tyX10_ok 35 (by decide), (fun h => by cases h), (fun _ => ⟨rfl, rfl⟩), rfl⟩
theorem fl_X10_92 : FL RX10 92 11 36 2 (.array .int) 1 := ⟨RX10, "ChartRoomModel", TX10, 58, tyX10, rfl, iu_11, tyX10_ok, nmX10, by decide, rfl, by decide, (uw_of 1107 (by decide +kernel) rfl), Or.inl rfl, tyX10_ok 36 (by decide), (fun h => by cases h), (fun _ => ⟨rfl, rfl⟩), rfl⟩
theorem fl_X10_95 : FL RX10 95 11 37 2 (.array .int) 1 := ⟨RX10, "ChartRoomModel", TX10, 58, tyX10, rfl, iu_11, tyX10_ok, nmX10, by decide, rfl, by decide, (uw_of 1108 (by decide +kernel) rfl), Or.inl rfl, tyX10_ok 37 (by decide), (fun h => by cases h), (fun _ => ⟨rfl, rfl⟩), rfl⟩
theorem fl_X10_98 : FL RX10 98 11 39 2 (.array .boolean) 1 := ⟨RX10, "ChartRoomModel", TX10, 58, tyX10, rfl, iu_11, tyX10_ok, nmX10, by decide, rfl, by decide, (uw_of 1110 (by decide +kernel) rfl), Or.inl rfl, tyX10_ok 39 (by decide), (fun h => by cases h), (fun _ => ⟨rfl, rfl⟩), rfl⟩
theorem fl_X10_101 : FL RX10 101 11 40 2 (.array .int) 1 := ⟨RX10, "ChartRoomModel", TX10, 58, tyX10, rfl, iu_11, tyX10_ok, nmX10, by decide, rfl, by decide, (uw_of 1111 (by decide +kernel) rfl), Or.inl rfl, tyX10_ok 40 (by decide), (fun h => by cases h), (fun _ => ⟨rfl, rfl⟩), rfl⟩
theorem fl_X10_104 : FL RX10 104 11 45 2 (.array .int) 1 := ⟨RX10, "ChartRoomModel", TX10, 58, tyX10, rfl, iu_11, tyX10_ok, nmX10, by decide, rfl, by decide, (uw_of 1116 (by decide +kernel) rfl), Or.inl rfl, tyX10_ok 45 (by decide), (fun h => by cases h), (fun _ => ⟨rfl, rfl⟩), rfl⟩
theorem fl_X10_107 : FL RX10 107 11 46 2 (.array .int) 1 := ⟨RX10, "ChartRoomModel", TX10, 58, tyX10, rfl, iu_11, tyX10_ok, nmX10, by decide, rfl, by decide, (uw_of 1117 (by decide +kernel) rfl), Or.inl rfl, tyX10_ok 46 (by decide), (fun h => by cases h), (fun _ => ⟨rfl, rfl⟩), rfl⟩
theorem fl_X10_110 : FL RX10 110 11 47 2 (.array .boolean) 1 := ⟨RX10, "ChartRoomModel", TX10, 58, tyX10, rfl, iu_11, tyX10_ok, nmX10, by decide, rfl, by decide, (uw_of 1118 (by decide +kernel) rfl), Or.inl rfl, tyX10_ok 47 (by decide), (fun h => by cases h), (fun _ => ⟨rfl, rfl⟩), rfl⟩
theorem fl_X10_113 : FL RX10 113 11 48 2 (.array .int) 1 := ⟨RX10, "ChartRoomModel", TX10, 58, tyX10, rfl, iu_11, tyX10_ok, nmX10, by decide, rfl, by decide, (uw_of 1119 (by decide +kernel) rfl), Or.inl rfl, tyX10_ok 48 (by decide), (fun h => by cases h), (fun _ => ⟨rfl, rfl⟩), rfl⟩
theorem fl_X10_116 : FL RX10 116 11 50 2 (.array .int) 1 := ⟨RX10, "ChartRoomModel", TX10, 58, tyX10, rfl, iu_11, tyX10_ok, nmX10, by decide, rfl, by decide, (uw_of 1121 (by decide +kernel) rfl), Or.inl rfl, tyX10_ok 50 (by decide), (fun h => by cases h), (fun _ => ⟨rfl, rfl⟩), rfl⟩
theorem fl_X10_119 : FL RX10 119 11 51 2 (.array .boolean) 1 := ⟨RX10, "ChartRoomModel", TX10, 58, tyX10, rfl, iu_11, tyX10_ok, nmX10, by decide, rfl, by decide, (uw_of 1122 (by decide +kernel) rfl), Or.inl rfl, tyX10_ok 51 (by decide), (fun h => by cases h), (fun _ => ⟨rfl, rfl⟩), rfl⟩
theorem fl_X10_122 : FL RX10 122 11 52 2 (.array .int) 1 := ⟨RX10, "ChartRoomModel", TX10, 58, tyX10, rfl, iu_11, tyX10_ok, nmX10, by decide, rfl, by decide, (uw_of 1123 (by decide +kernel) rfl), Or.inl rfl, tyX10_ok 52 (by decide), (fun h => by cases h), (fun _ => ⟨rfl, rfl⟩), rfl⟩
theorem fl_X10_125 : FL RX10 125 11 53 2 (.array .int) 1 := ⟨RX10, "ChartRoomModel", TX10, 58, tyX10, rfl, iu_11, tyX10_ok, nmX10, by decide, rfl, by decide, (uw_of 1124 (by decide +kernel) rfl), Or.inl rfl, tyX10_ok 53 (by decide), (fun h => by cases h), (fun _ => ⟨rfl, rfl⟩), rfl⟩
theorem fl_X10_128 : FL RX10 128 11 54 2 (.array .int) 1 := ⟨RX10, "ChartRoomModel", TX10, 58, tyX10, rfl, iu_11, tyX10_ok, nmX10, by decide, rfl, by decide, (uw_of 1125 (by decide +kernel) rfl), Or.inl rfl, tyX10_ok 54 (by decide), (fun h => by cases h), (fun _ => ⟨rfl, rfl⟩), rfl⟩
theorem fl_X10_131 : FL RX10 131 11 55 2 (.array .int) 1 := ⟨RX10, "ChartRoomModel", TX10, 58, tyX10, rfl, iu_11, tyX10_ok, nmX10, by decide, rfl, by decide, (uw_of 1126 (by decide +kernel) rfl), Or.inl rfl, tyX10_ok 55 (by decide), (fun h => by cases h), (fun _ => ⟨rfl, rfl⟩), rfl⟩
theorem fl_X10_134 : FL RX10 134 11 56 2 (.array .int) 1 := ⟨RX10, "ChartRoomModel", TX10, 58, tyX10, rfl, iu_11, tyX10_ok, nmX10, by decide, rfl, by decide, (uw_of 1127 (by decide +kernel) rfl), Or.inl rfl, tyX10_ok 56 (by decide), (fun h => by cases h), (fun _ => ⟨rfl, rfl⟩), rfl⟩
theorem fl_X10_137 : FL RX10 137 11 16 0 .int 0 := ⟨RX10, "ChartRoomModel", TX10, 58, tyX10, rfl, iu_11, tyX10_ok, nmX10, by decide, rfl, by decide, (uw_of 1087 (by decide +kernel) rfl), Or.inl rfl, tyX10_ok 16 (by decide), (fun _ => rfl), (fun h => by cases h), rfl⟩
theorem fl_X10_141 : FL RX10 141 11 17 0 .int 0 := ⟨RX10, "ChartRoomModel", TX10, 58, tyX10, rfl, iu_11, tyX10_ok, nmX10, by decide, rfl, by decide, (uw_of 1088 (by decide +kernel) rfl), Or.inl rfl, tyX10_ok 17 (by decide), (fun _ => rfl), (fun h => by cases h), rfl⟩
theorem cw_X10_init : Cond.code yX10_init cX10_init 2 (none) ∈ UW := (uw_of 1069 (by decide +kernel) rfl)
theorem cw_X10_hasBit : Cond.code yX10_hasBit cX10_hasBit 2 (some .boolean) ∈ UW := (uw_of 1340 (by decide +kernel) rfl)
theorem cw_X10_count : Cond.code yX10_count cX10_count 3 (some .int) ∈ UW := (uw_of 1367 (by decide +kernel) rfl)
theorem cw_X10_sizeOf : Cond.code yX10_sizeOf cX10_sizeOf 1 (some .int) ∈ UW := (uw_of 1350 (by decide +kernel) rfl)
theorem cw_X10_greater : Cond.code yX10_greater cX10_greater 2 (some .int) ∈ UW := (uw_of 1364 (by decide +kernel) rfl)
theorem ini_ChartRoomModel : Cond.initialized "ChartRoomModel" ∈ UW := (uw_of 93 (by decide +kernel) rfl)
theorem cb_X10_195 : CBS RX10 195 yX10_sizeOf cX10_sizeOf 1 (some .int) 1 := ⟨⟨cw_X10_sizeOf, ini_ChartRoomModel, by decide, (uw_of 1348 (by decide +kernel) rfl)⟩, (uw_of 1349 (by decide +kernel) rfl)⟩
theorem cb_X10_198 : CBS RX10 198 yX10_greater cX10_greater 2 (some .int) 2 := ⟨⟨cw_X10_greater, ini_ChartRoomModel, by decide, (uw_of 1362 (by decide +kernel) rfl)⟩, (uw_of 1363 (by decide +kernel) rfl)⟩
theorem cw_X10_stepsOf : Cond.code yX10_stepsOf cX10_stepsOf 2 (some .int) ∈ UW := (uw_of 1361 (by decide +kernel) rfl)
theorem cb_X10_257 : CBS RX10 257 yX10_stepsOf cX10_stepsOf 2 (some .int) 2 := ⟨⟨cw_X10_stepsOf, ini_ChartRoomModel, by decide, (uw_of 1359 (by decide +kernel) rfl)⟩, (uw_of 1360 (by decide +kernel) rfl)⟩
theorem cw_X10_doQuarrel : Cond.code yX10_doQuarrel cX10_doQuarrel 3 (some .boolean) ∈ UW := (uw_of 1358 (by decide +kernel) rfl)
theorem fl_X10_153 : FL RX10 153 11 1 0 .int 0 := ⟨RX10, "ChartRoomModel", TX10, 58, tyX10, rfl, iu_11, tyX10_ok, nmX10, by decide, rfl, by decide, (uw_of 1072 (by decide +kernel) rfl), Or.inl rfl, tyX10_ok 1 (by decide), (fun _ => rfl), (fun h => by cases h), rfl⟩
theorem cb_X10_245 : CBS RX10 245 yX10_hasBit cX10_hasBit 2 (some .boolean) 2 := ⟨⟨cw_X10_hasBit, ini_ChartRoomModel, by decide, (uw_of 1338 (by decide +kernel) rfl)⟩, (uw_of 1339 (by decide +kernel) rfl)⟩
theorem cw_X10_isQuiet : Cond.code yX10_isQuiet cX10_isQuiet 4 (some .boolean) ∈ UW := (uw_of 1371 (by decide +kernel) rfl)
theorem fl_X10_263 : FL RX10 263 11 23 0 .int 0 := ⟨RX10, "ChartRoomModel", TX10, 58, tyX10, rfl, iu_11, tyX10_ok, nmX10, by decide, rfl, by decide, (uw_of 1094 (by decide +kernel) rfl), Or.inl rfl, tyX10_ok 23 (by decide), (fun _ => rfl), (fun h => by cases h), rfl⟩
theorem cb_X10_266 : CBS RX10 266 yX10_count cX10_count 3 (some .int) 1 := ⟨⟨cw_X10_count, ini_ChartRoomModel, by decide, (uw_of 1365 (by decide +kernel) rfl)⟩, (uw_of 1366 (by decide +kernel) rfl)⟩
theorem cb_X10_260 : CBV RX10 260 yX10_doQuarrel cX10_doQuarrel 3 (some .boolean) 2 11 := ⟨⟨cw_X10_doQuarrel, ini_ChartRoomModel, by decide, (uw_of 1355 (by decide +kernel) rfl)⟩, (uw_of 1357 (by decide +kernel) rfl), (uw_of 53 (by decide +kernel) rfl), by decide, TX10, 58, rfl⟩
theorem cb_X10_269 : CBV RX10 269 yX10_isQuiet cX10_isQuiet 4 (some .boolean) 1 11 := ⟨⟨cw_X10_isQuiet, ini_ChartRoomModel, by decide, (uw_of 1368 (by decide +kernel) rfl)⟩, (uw_of 1370 (by decide +kernel) rfl), (uw_of 54 (by decide +kernel) rfl), by decide, TX10, 58, rfl⟩
theorem cw_X10_findDoubted : Cond.code yX10_findDoubted cX10_findDoubted 4 (none) ∈ UW := (uw_of 1354 (by decide +kernel) rfl)
theorem fl_X10_201 : FL RX10 201 11 8 0 .int 0 := ⟨RX10, "ChartRoomModel", TX10, 58, tyX10, rfl, iu_11, tyX10_ok, nmX10, by decide, rfl, by decide, (uw_of 1079 (by decide +kernel) rfl), Or.inl rfl, tyX10_ok 8 (by decide), (fun _ => rfl), (fun h => by cases h), rfl⟩
theorem fl_X10_242 : FL RX10 242 11 15 0 .int 0 := ⟨RX10, "ChartRoomModel", TX10, 58, tyX10, rfl, iu_11, tyX10_ok, nmX10, by decide, rfl, by decide, (uw_of 1086 (by decide +kernel) rfl), Or.inl rfl, tyX10_ok 15 (by decide), (fun _ => rfl), (fun h => by cases h), rfl⟩
theorem cw_X10_lastWire : Cond.code yX10_lastWire cX10_lastWire 5 (some .int) ∈ UW := (uw_of 1329 (by decide +kernel) rfl)
theorem cw_X10_by : Cond.code yX10_by cX10_by 3 (some .int) ∈ UW := (uw_of 1276 (by decide +kernel) rfl)
theorem cb_X10_178 : CBS RX10 178 yX10_by cX10_by 3 (some .int) 2 := ⟨⟨cw_X10_by, ini_ChartRoomModel, by decide, (uw_of 1274 (by decide +kernel) rfl)⟩, (uw_of 1275 (by decide +kernel) rfl)⟩
theorem cw_X10_levelBy : Cond.code yX10_levelBy cX10_levelBy 4 (some .int) ∈ UW := (uw_of 1347 (by decide +kernel) rfl)
theorem cw_X10_far : Cond.code yX10_far cX10_far 4 (some .int) ∈ UW := (uw_of 1343 (by decide +kernel) rfl)
theorem cb_X10_248 : CBS RX10 248 yX10_far cX10_far 4 (some .int) 2 := ⟨⟨cw_X10_far, ini_ChartRoomModel, by decide, (uw_of 1341 (by decide +kernel) rfl)⟩, (uw_of 1342 (by decide +kernel) rfl)⟩
theorem cb_X10_251 : CBV RX10 251 yX10_levelBy cX10_levelBy 4 (some .int) 2 11 := ⟨⟨cw_X10_levelBy, ini_ChartRoomModel, by decide, (uw_of 1344 (by decide +kernel) rfl)⟩, (uw_of 1346 (by decide +kernel) rfl), (uw_of 51 (by decide +kernel) rfl), by decide, TX10, 58, rfl⟩
theorem cw_X10_guessOf : Cond.code yX10_guessOf cX10_guessOf 10 (some .int) ∈ UW := (uw_of 1337 (by decide +kernel) rfl)
theorem cw_X10_fits : Cond.code yX10_fits cX10_fits 6 (some .boolean) ∈ UW := (uw_of 1313 (by decide +kernel) rfl)
theorem cb_X10_204 : CBV RX10 204 yX10_fits cX10_fits 6 (some .boolean) 4 11 := ⟨⟨cw_X10_fits, ini_ChartRoomModel, by decide, (uw_of 1310 (by decide +kernel) rfl)⟩, (uw_of 1312 (by decide +kernel) rfl), (uw_of 45 (by decide +kernel) rfl), by decide, TX10, 58, rfl⟩
theorem cw_X10_readingOf : Cond.code yX10_readingOf cX10_readingOf 10 (some .int) ∈ UW := (uw_of 1309 (by decide +kernel) rfl)
theorem cb_X10_254 : CBV RX10 254 yX10_guessOf cX10_guessOf 10 (some .int) 1 11 := ⟨⟨cw_X10_guessOf, ini_ChartRoomModel, by decide, (uw_of 1334 (by decide +kernel) rfl)⟩, (uw_of 1336 (by decide +kernel) rfl), (uw_of 50 (by decide +kernel) rfl), by decide, TX10, 58, rfl⟩
theorem cb_X10_208 : CBV RX10 208 yX10_readingOf cX10_readingOf 10 (some .int) 3 11 := ⟨⟨cw_X10_readingOf, ini_ChartRoomModel, by decide, (uw_of 1306 (by decide +kernel) rfl)⟩, (uw_of 1308 (by decide +kernel) rfl), (uw_of 44 (by decide +kernel) rfl), by decide, TX10, 58, rfl⟩
theorem cw_X10_mendedOf : Cond.code yX10_mendedOf cX10_mendedOf 6 (some .int) ∈ UW := (uw_of 1333 (by decide +kernel) rfl)
theorem cw_X10_back : Cond.code yX10_back cX10_back 2 (some .int) ∈ UW := (uw_of 1279 (by decide +kernel) rfl)
theorem cw_X10_in : Cond.code yX10_in cX10_in 6 (some .boolean) ∈ UW := (uw_of 1253 (by decide +kernel) rfl)
theorem cb_X10_156 : CBS RX10 156 yX10_in cX10_in 6 (some .boolean) 3 := ⟨⟨cw_X10_in, ini_ChartRoomModel, by decide, (uw_of 1251 (by decide +kernel) rfl)⟩, (uw_of 1252 (by decide +kernel) rfl)⟩
theorem cw_X10_isPlace : Cond.code yX10_isPlace cX10_isPlace 2 (some .boolean) ∈ UW := (uw_of 1256 (by decide +kernel) rfl)
theorem cb_X10_164 : CBS RX10 164 yX10_isPlace cX10_isPlace 2 (some .boolean) 2 := ⟨⟨cw_X10_isPlace, ini_ChartRoomModel, by decide, (uw_of 1254 (by decide +kernel) rfl)⟩, (uw_of 1255 (by decide +kernel) rfl)⟩
theorem cb_X10_182 : CBS RX10 182 yX10_back cX10_back 2 (some .int) 1 := ⟨⟨cw_X10_back, ini_ChartRoomModel, by decide, (uw_of 1277 (by decide +kernel) rfl)⟩, (uw_of 1278 (by decide +kernel) rfl)⟩
theorem cw_X10_placeOf : Cond.code yX10_placeOf cX10_placeOf 5 (some .int) ∈ UW := (uw_of 1273 (by decide +kernel) rfl)
theorem cw_X10_valueAt : Cond.code yX10_valueAt cX10_valueAt 5 (some .int) ∈ UW := (uw_of 1375 (by decide +kernel) rfl)
theorem fl_X10_174 : FL RX10 174 11 18 0 .boolean 0 := ⟨RX10, "ChartRoomModel", TX10, 58, tyX10, rfl, iu_11, tyX10_ok, nmX10, by decide, rfl, by decide, (uw_of 1089 (by decide +kernel) rfl), Or.inl rfl, tyX10_ok 18 (by decide), (fun _ => rfl), (fun h => by cases h), rfl⟩
theorem fl_X10_272 : FL RX10 272 11 19 0 .int 0 := ⟨RX10, "ChartRoomModel", TX10, 58, tyX10, rfl, iu_11, tyX10_ok, nmX10, by decide, rfl, by decide, (uw_of 1090 (by decide +kernel) rfl), Or.inl rfl, tyX10_ok 19 (by decide), (fun _ => rfl), (fun h => by cases h), rfl⟩
theorem cb_X10_192 : CBV RX10 192 yX10_placeOf cX10_placeOf 5 (some .int) 2 11 := ⟨⟨cw_X10_placeOf, ini_ChartRoomModel, by decide, (uw_of 1270 (by decide +kernel) rfl)⟩, (uw_of 1272 (by decide +kernel) rfl), (uw_of 40 (by decide +kernel) rfl), by decide, TX10, 58, rfl⟩
theorem cb_X10_275 : CBV RX10 275 yX10_lastWire cX10_lastWire 5 (some .int) 1 11 := ⟨⟨cw_X10_lastWire, ini_ChartRoomModel, by decide, (uw_of 1326 (by decide +kernel) rfl)⟩, (uw_of 1328 (by decide +kernel) rfl), (uw_of 48 (by decide +kernel) rfl), by decide, TX10, 58, rfl⟩
theorem cb_X10_281 : CBV RX10 281 yX10_findDoubted cX10_findDoubted 4 (none) 0 11 := ⟨⟨cw_X10_findDoubted, ini_ChartRoomModel, by decide, (uw_of 1351 (by decide +kernel) rfl)⟩, (uw_of 1353 (by decide +kernel) rfl), (uw_of 52 (by decide +kernel) rfl), by decide, TX10, 58, rfl⟩
theorem cb_X10_278 : CBV RX10 278 yX10_mendedOf cX10_mendedOf 6 (some .int) 1 11 := ⟨⟨cw_X10_mendedOf, ini_ChartRoomModel, by decide, (uw_of 1330 (by decide +kernel) rfl)⟩, (uw_of 1332 (by decide +kernel) rfl), (uw_of 49 (by decide +kernel) rfl), by decide, TX10, 58, rfl⟩
theorem cb_X10_284 : CBV RX10 284 yX10_valueAt cX10_valueAt 5 (some .int) 1 11 := ⟨⟨cw_X10_valueAt, ini_ChartRoomModel, by decide, (uw_of 1372 (by decide +kernel) rfl)⟩, (uw_of 1374 (by decide +kernel) rfl), (uw_of 55 (by decide +kernel) rfl), by decide, TX10, 58, rfl⟩
theorem cw_X10_layChart : Cond.code yX10_layChart cX10_layChart 3 (none) ∈ UW := (uw_of 1325 (by decide +kernel) rfl)
theorem cw_X10_noPost : Cond.code yX10_noPost cX10_noPost 2 (some .boolean) ∈ UW := (uw_of 1268 (by decide +kernel) rfl)
theorem cb_X10_186 : CBV RX10 186 yX10_noPost cX10_noPost 2 (some .boolean) 1 11 := ⟨⟨cw_X10_noPost, ini_ChartRoomModel, by decide, (uw_of 1265 (by decide +kernel) rfl)⟩, (uw_of 1267 (by decide +kernel) rfl), (uw_of 39 (by decide +kernel) rfl), by decide, TX10, 58, rfl⟩
theorem cb_X10_237 : CBV RX10 237 yX10_layChart cX10_layChart 3 (none) 0 11 := ⟨⟨cw_X10_layChart, ini_ChartRoomModel, by decide, (uw_of 1322 (by decide +kernel) rfl)⟩, (uw_of 1324 (by decide +kernel) rfl), (uw_of 47 (by decide +kernel) rfl), by decide, TX10, 58, rfl⟩
theorem cw_X10_about : Cond.code yX10_about cX10_about 5 (some .int) ∈ UW := (uw_of 1392 (by decide +kernel) rfl)
abbrev rmX10_init : Room := { frames := 1, cells := 42, slots := 3097, locals := 20 }
abbrev rmX10_hasBit : Room := { frames := 0, cells := 0, slots := 0, locals := 0 }
abbrev rmX10_count : Room := { frames := 0, cells := 0, slots := 0, locals := 0 }
abbrev rmX10_sizeOf : Room := { frames := 0, cells := 0, slots := 0, locals := 0 }
abbrev rmX10_greater : Room := { frames := 0, cells := 0, slots := 0, locals := 0 }
abbrev rmX10_stepsOf : Room := { frames := 1, cells := 0, slots := 0, locals := 21 }
abbrev rmX10_doQuarrel : Room := { frames := 2, cells := 0, slots := 0, locals := 42 }
abbrev rmX10_isQuiet : Room := { frames := 1, cells := 0, slots := 0, locals := 21 }
abbrev rmX10_findDoubted : Room := { frames := 3, cells := 0, slots := 0, locals := 64 }
abbrev rmX10_lastWire : Room := { frames := 0, cells := 0, slots := 0, locals := 0 }
abbrev rmX10_by : Room := { frames := 0, cells := 0, slots := 0, locals := 0 }
abbrev rmX10_levelBy : Room := { frames := 1, cells := 0, slots := 0, locals := 22 }
abbrev rmX10_far : Room := { frames := 0, cells := 0, slots := 0, locals := 0 }
abbrev rmX10_guessOf : Room := { frames := 2, cells := 0, slots := 0, locals := 45 }
abbrev rmX10_fits : Room := { frames := 0, cells := 0, slots := 0, locals := 0 }
abbrev rmX10_readingOf : Room := { frames := 1, cells := 0, slots := 0, locals := 25 }
abbrev rmX10_mendedOf : Room := { frames := 3, cells := 0, slots := 0, locals := 74 }
abbrev rmX10_back : Room := { frames := 0, cells := 0, slots := 0, locals := 0 }
abbrev rmX10_in : Room := { frames := 0, cells := 0, slots := 0, locals := 0 }
abbrev rmX10_isPlace : Room := { frames := 1, cells := 0, slots := 0, locals := 25 }
abbrev rmX10_placeOf : Room := { frames := 2, cells := 0, slots := 0, locals := 46 }
abbrev rmX10_valueAt : Room := { frames := 1, cells := 0, slots := 0, locals := 23 }
abbrev rmX10_layChart : Room := { frames := 4, cells := 0, slots := 0, locals := 99 }
abbrev rmX10_noPost : Room := { frames := 1, cells := 0, slots := 0, locals := 25 }
abbrev rmX10_about : Room := { frames := 5, cells := 0, slots := 0, locals := 121 }
noncomputable def bX10_init_0 (S : MS) (x0 : Nat) : Option ((Nat × Int32 × MS) ⊕ MS) :=
  (o_le 12 (12 : Int32)).bind fun n7 =>
  (some (m_n S + 1)).bind fun o7 =>
  (some (m_new S 12 n7)).bind fun S7 =>
  (o_sP S7 x0 11 2 o7).bind fun S9 =>
  (o_le 12 (12 : Int32)).bind fun n15 =>
  (some (m_n S9 + 1)).bind fun o15 =>
  (some (m_new S9 12 n15)).bind fun S15 =>
  (o_sP S15 x0 11 3 o15).bind fun S17 =>
  (o_le 12 (12 : Int32)).bind fun n23 =>
  (some (m_n S17 + 1)).bind fun o23 =>
  (some (m_new S17 12 n23)).bind fun S23 =>
  (o_sP S23 x0 11 4 o23).bind fun S25 =>
  (o_le 12 (12 : Int32)).bind fun n31 =>
  (some (m_n S25 + 1)).bind fun o31 =>
  (some (m_new S25 12 n31)).bind fun S31 =>
  (o_sP S31 x0 11 5 o31).bind fun S33 =>
  (o_le 12 (12 : Int32)).bind fun n39 =>
  (some (m_n S33 + 1)).bind fun o39 =>
  (some (m_new S33 12 n39)).bind fun S39 =>
  (o_sP S39 x0 11 6 o39).bind fun S41 =>
  (o_le 12 (12 : Int32)).bind fun n47 =>
  (some (m_n S41 + 1)).bind fun o47 =>
  (some (m_new S41 12 n47)).bind fun S47 =>
  (o_sP S47 x0 11 7 o47).bind fun S49 =>
  (o_le 30 (30 : Int32)).bind fun n55 =>
  (some (m_n S49 + 1)).bind fun o55 =>
  (some (m_new S49 12 n55)).bind fun S55 =>
  (o_sP S55 x0 11 9 o55).bind fun S57 =>
  (o_le 30 (30 : Int32)).bind fun n63 =>
  (some (m_n S57 + 1)).bind fun o63 =>
  (some (m_new S57 12 n63)).bind fun S63 =>
  (o_sP S63 x0 11 10 o63).bind fun S65 =>
  (o_le 30 (30 : Int32)).bind fun n71 =>
  (some (m_n S65 + 1)).bind fun o71 =>
  (some (m_new S65 12 n71)).bind fun S71 =>
  (o_sP S71 x0 11 11 o71).bind fun S73 =>
  (o_le 450 (450 : Int32)).bind fun n80 =>
  (some (m_n S73 + 1)).bind fun o80 =>
  (some (m_new S73 12 n80)).bind fun S80 =>
  (o_sP S80 x0 11 12 o80).bind fun S82 =>
  (o_le 30 (30 : Int32)).bind fun n88 =>
  (some (m_n S82 + 1)).bind fun o88 =>
  (some (m_new S82 12 n88)).bind fun S88 =>
  (o_sP S88 x0 11 13 o88).bind fun S90 =>
  (o_le 30 (30 : Int32)).bind fun n96 =>
  (some (m_n S90 + 1)).bind fun o96 =>
  (some (m_new S90 12 n96)).bind fun S96 =>
  (o_sP S96 x0 11 14 o96).bind fun S98 =>
  (o_le 12 (12 : Int32)).bind fun n104 =>
  (some (m_n S98 + 1)).bind fun o104 =>
  (some (m_new S98 12 n104)).bind fun S104 =>
  (o_sP S104 x0 11 20 o104).bind fun S106 =>
  (o_le 12 (12 : Int32)).bind fun n112 =>
  (some (m_n S106 + 1)).bind fun o112 =>
  (some (m_new S106 12 n112)).bind fun S112 =>
  (o_sP S112 x0 11 21 o112).bind fun S114 =>
  (o_le 12 (12 : Int32)).bind fun n120 =>
  (some (m_n S114 + 1)).bind fun o120 =>
  (some (m_new S114 12 n120)).bind fun S120 =>
  (o_sP S120 x0 11 22 o120).bind fun S122 =>
  (o_le 144 (144 : Int32)).bind fun n129 =>
  (some (m_n S122 + 1)).bind fun o129 =>
  (some (m_new S122 12 n129)).bind fun S129 =>
  (o_sP S129 x0 11 24 o129).bind fun S131 =>
  (o_le 12 (12 : Int32)).bind fun n137 =>
  (some (m_n S131 + 1)).bind fun o137 =>
  (some (m_new S131 12 n137)).bind fun S137 =>
  (o_sP S137 x0 11 25 o137).bind fun S139 =>
  (o_le 144 (144 : Int32)).bind fun n146 =>
  (some (m_n S139 + 1)).bind fun o146 =>
  (some (m_new S139 12 n146)).bind fun S146 =>
  (o_sP S146 x0 11 26 o146).bind fun S148 =>
  (o_le 144 (144 : Int32)).bind fun n155 =>
  (some (m_n S148 + 1)).bind fun o155 =>
  (some (m_new S148 13 n155)).bind fun S155 =>
  (o_sP S155 x0 11 27 o155).bind fun S157 =>
  (o_le 2 (2 : Int32)).bind fun n162 =>
  (some (m_n S157 + 1)).bind fun o162 =>
  (some (m_new S157 12 n162)).bind fun S162 =>
  (o_sP S162 x0 11 28 o162).bind fun S164 =>
  (o_le 10 (10 : Int32)).bind fun n170 =>
  (some (m_n S164 + 1)).bind fun o170 =>
  (some (m_new S164 12 n170)).bind fun S170 =>
  (o_sP S170 x0 11 29 o170).bind fun S172 =>
  (o_le 10 (10 : Int32)).bind fun n178 =>
  (some (m_n S172 + 1)).bind fun o178 =>
  (some (m_new S172 12 n178)).bind fun S178 =>
  (o_sP S178 x0 11 30 o178).bind fun S180 =>
  (o_le 10 (10 : Int32)).bind fun n186 =>
  (some (m_n S180 + 1)).bind fun o186 =>
  (some (m_new S180 12 n186)).bind fun S186 =>
  (o_sP S186 x0 11 31 o186).bind fun S188 =>
  (o_le 10 (10 : Int32)).bind fun n194 =>
  (some (m_n S188 + 1)).bind fun o194 =>
  (some (m_new S188 12 n194)).bind fun S194 =>
  (o_sP S194 x0 11 32 o194).bind fun S196 =>
  (o_le 120 (120 : Int32)).bind fun n202 =>
  (some (m_n S196 + 1)).bind fun o202 =>
  (some (m_new S196 12 n202)).bind fun S202 =>
  (o_sP S202 x0 11 33 o202).bind fun S204 =>
  (o_le 12 (12 : Int32)).bind fun n210 =>
  (some (m_n S204 + 1)).bind fun o210 =>
  (some (m_new S204 12 n210)).bind fun S210 =>
  (o_sP S210 x0 11 34 o210).bind fun S212 =>
  (o_le 12 (12 : Int32)).bind fun n218 =>
  (some (m_n S212 + 1)).bind fun o218 =>
  (some (m_new S212 12 n218)).bind fun S218 =>
  (o_sP S218 x0 11 35 o218).bind fun S220 =>
  (o_le 720 (720 : Int32)).bind fun n227 =>
  (some (m_n S220 + 1)).bind fun o227 =>
  (some (m_new S220 12 n227)).bind fun S227 =>
  (o_sP S227 x0 11 36 o227).bind fun S229 =>
  (o_le 5 (5 : Int32)).bind fun n234 =>
  (some (m_n S229 + 1)).bind fun o234 =>
  (some (m_new S229 12 n234)).bind fun S234 =>
  (o_sP S234 x0 11 37 o234).bind fun S236 =>
  (o_le 4 (4 : Int32)).bind fun n241 =>
  (some (m_n S236 + 1)).bind fun o241 =>
  (some (m_new S236 13 n241)).bind fun S241 =>
  (o_sP S241 x0 11 39 o241).bind fun S243 =>
  (o_le 576 (576 : Int32)).bind fun n250 =>
  (some (m_n S243 + 1)).bind fun o250 =>
  (some (m_new S243 12 n250)).bind fun S250 =>
  (o_sP S250 x0 11 40 o250).bind fun S252 =>
  (o_le 8 (8 : Int32)).bind fun n258 =>
  (some (m_n S252 + 1)).bind fun o258 =>
  (some (m_new S252 12 n258)).bind fun S258 =>
  (o_sP S258 x0 11 45 o258).bind fun S260 =>
  (o_le 40 (40 : Int32)).bind fun n266 =>
  (some (m_n S260 + 1)).bind fun o266 =>
  (some (m_new S260 12 n266)).bind fun S266 =>
  (o_sP S266 x0 11 46 o266).bind fun S268 =>
  (o_le 40 (40 : Int32)).bind fun n274 =>
  (some (m_n S268 + 1)).bind fun o274 =>
  (some (m_new S268 13 n274)).bind fun S274 =>
  (o_sP S274 x0 11 47 o274).bind fun S276 =>
  (o_le 40 (40 : Int32)).bind fun n282 =>
  (some (m_n S276 + 1)).bind fun o282 =>
  (some (m_new S276 12 n282)).bind fun S282 =>
  (o_sP S282 x0 11 48 o282).bind fun S284 =>
  (o_le 6 (6 : Int32)).bind fun n290 =>
  (some (m_n S284 + 1)).bind fun o290 =>
  (some (m_new S284 12 n290)).bind fun S290 =>
  (o_sP S290 x0 11 50 o290).bind fun S292 =>
  (o_le 6 (6 : Int32)).bind fun n298 =>
  (some (m_n S292 + 1)).bind fun o298 =>
  (some (m_new S292 13 n298)).bind fun S298 =>
  (o_sP S298 x0 11 51 o298).bind fun S300 =>
  (o_le 6 (6 : Int32)).bind fun n306 =>
  (some (m_n S300 + 1)).bind fun o306 =>
  (some (m_new S300 12 n306)).bind fun S306 =>
  (o_sP S306 x0 11 52 o306).bind fun S308 =>
  (o_le 4 (4 : Int32)).bind fun n313 =>
  (some (m_n S308 + 1)).bind fun o313 =>
  (some (m_new S308 12 n313)).bind fun S313 =>
  (o_sP S313 x0 11 53 o313).bind fun S315 =>
  (o_le 4 (4 : Int32)).bind fun n320 =>
  (some (m_n S315 + 1)).bind fun o320 =>
  (some (m_new S315 12 n320)).bind fun S320 =>
  (o_sP S320 x0 11 54 o320).bind fun S322 =>
  (o_le 240 (240 : Int32)).bind fun n329 =>
  (some (m_n S322 + 1)).bind fun o329 =>
  (some (m_new S322 12 n329)).bind fun S329 =>
  (o_sP S329 x0 11 55 o329).bind fun S331 =>
  (o_le 60 (60 : Int32)).bind fun n337 =>
  (some (m_n S331 + 1)).bind fun o337 =>
  (some (m_new S331 12 n337)).bind fun S337 =>
  (o_sP S337 x0 11 56 o337).bind fun S339 =>
  (o_sI S339 x0 11 16 (99 : Int32)).bind fun S345 =>
  (o_sI S345 x0 11 17 (60 : Int32)).bind fun S351 =>
  some (.inl (x0, (0 : Int32), S351))
noncomputable def bX10_init_356 (S : MS) (x0 : Nat) (x1 : Int32) : Option ((Nat × Int32 × MS) ⊕ MS) :=
  if (4 : Int32) ≤ x1 then
    some (.inr S)
  else
    (o_gP S x0 11 53).bind fun v362 =>
    (o_st S v362 12 x1 (-1 : Int32)).bind fun S367 =>
    (some (x1 + 1)).bind fun v368 =>
    some (.inl (x0, v368, S367))
noncomputable def sX10_init : (Nat × Int32 × MS) → Option ((Nat × Int32 × MS) ⊕ MS) := (fun t => bX10_init_356 t.2.2 t.1 t.2.1)
noncomputable def hX10_init_356 (S : MS) (x0 : Nat) (x1 : Int32) : Option MS := lim (sX10_init) (x0, x1, S)
theorem qX10_init_356 (S : MS) (x0 : Nat) (x1 : Int32) : hX10_init_356 S x0 x1 = fin (sX10_init) (bX10_init_356 S x0 x1) := lim_eq _ _
noncomputable def fX10_init (S : MS) (a0 : Nat) : Option MS := fin (sX10_init) (bX10_init_0 S a0)
noncomputable def bX10_hasBit_14 (z0 : Int32) : Option Int32 :=
  (o_zb z0).bind fun z14 =>
  some z14
noncomputable def bX10_hasBit_0 (x0 : Int32) (x1 : Int32) : Option Int32 :=
  if ((x0 >>> (x1 &&& 31)) &&& (1 : Int32)) = (1 : Int32) then
    bX10_hasBit_14 (1 : Int32)
  else
    bX10_hasBit_14 (0 : Int32)
noncomputable def fX10_hasBit (a0 : Int32) (a1 : Int32) : Option Int32 := bX10_hasBit_0 a0 a1
noncomputable def bX10_count_0 (x0 : Int32) : Option ((Int32 × Int32 × Int32) ⊕ Int32) :=
  some (.inl (x0, (0 : Int32), (0 : Int32)))
noncomputable def bX10_count_4 (x0 : Int32) (x1 : Int32) (x2 : Int32) : Option ((Int32 × Int32 × Int32) ⊕ Int32) :=
  if (12 : Int32) ≤ x2 then
    some (.inr x1)
  else
    (some ((x1 + ((x0 >>> (x2 &&& 31)) &&& (1 : Int32))))).bind fun v17 =>
    (some (x2 + 1)).bind fun v18 =>
    some (.inl (x0, v17, v18))
noncomputable def sX10_count : (Int32 × Int32 × Int32) → Option ((Int32 × Int32 × Int32) ⊕ Int32) := (fun t => bX10_count_4 t.1 t.2.1 t.2.2)
noncomputable def hX10_count_4 (x0 : Int32) (x1 : Int32) (x2 : Int32) : Option Int32 := lim (sX10_count) (x0, x1, x2)
theorem qX10_count_4 (x0 : Int32) (x1 : Int32) (x2 : Int32) : hX10_count_4 x0 x1 x2 = fin (sX10_count) (bX10_count_4 x0 x1 x2) := lim_eq _ _
noncomputable def fX10_count (a0 : Int32) : Option Int32 := fin (sX10_count) (bX10_count_0 a0)
noncomputable def bX10_sizeOf_10 (z0 : Int32) : Option Int32 :=
  some z0
noncomputable def bX10_sizeOf_0 (x0 : Int32) : Option Int32 :=
  if 0 ≤ x0 then
    bX10_sizeOf_10 x0
  else
    bX10_sizeOf_10 (-x0)
noncomputable def fX10_sizeOf (a0 : Int32) : Option Int32 := bX10_sizeOf_0 a0
noncomputable def bX10_greater_10 (z0 : Int32) : Option Int32 :=
  some z0
noncomputable def bX10_greater_0 (x0 : Int32) (x1 : Int32) : Option Int32 :=
  if x0 ≤ x1 then
    bX10_greater_10 x1
  else
    bX10_greater_10 x0
noncomputable def fX10_greater (a0 : Int32) (a1 : Int32) : Option Int32 := bX10_greater_0 a0 a1
noncomputable def bX10_stepsOf_0 (x0 : Int32) (x1 : Int32) : Option Int32 :=
  (fX10_sizeOf ((x0 - x0 / (12 : Int32) * (12 : Int32)) - (x1 - x1 / (12 : Int32) * (12 : Int32)))).bind fun v9 =>
  (fX10_sizeOf ((x0 / (12 : Int32)) - (x1 / (12 : Int32)))).bind fun v21 =>
  (fX10_greater v9 v21).bind fun v24 =>
  some v24
noncomputable def fX10_stepsOf (a0 : Int32) (a1 : Int32) : Option Int32 := bX10_stepsOf_0 a0 a1
noncomputable def bX10_doQuarrel_44 (S : MS) (z0 : Int32) : Option Int32 :=
  (o_zb z0).bind fun z44 =>
  some z44
noncomputable def bX10_doQuarrel_0 (S : MS) (x0 : Nat) (x1 : Int32) (x2 : Int32) : Option Int32 :=
  (o_gP S x0 11 22).bind fun v1 =>
  (o_ld S v1 12 x1).bind fun v5 =>
  (o_gP S x0 11 22).bind fun v7 =>
  (o_ld S v7 12 x2).bind fun v11 =>
  (fX10_sizeOf (v5 - v11)).bind fun v13 =>
  (o_gI S x0 11 17).bind fun v17 =>
  (o_gP S x0 11 21).bind fun v21 =>
  (o_ld S v21 12 x1).bind fun v25 =>
  (o_gP S x0 11 21).bind fun v27 =>
  (o_ld S v27 12 x2).bind fun v31 =>
  (fX10_stepsOf v25 v31).bind fun v32 =>
  if v13 ≤ (v17 * v32) then
    bX10_doQuarrel_44 S (0 : Int32)
  else
    bX10_doQuarrel_44 S (1 : Int32)
noncomputable def fX10_doQuarrel (S : MS) (a0 : Nat) (a1 : Int32) (a2 : Int32) : Option Int32 := bX10_doQuarrel_0 S a0 a1 a2
noncomputable def bX10_isQuiet_0 (S : MS) (x0 : Nat) (x1 : Int32) : Option ((Nat × Int32 × Int32 × Int32) ⊕ Int32) :=
  some (.inl (x0, x1, (1 : Int32), (0 : Int32)))
noncomputable def bX10_isQuiet_40 (S : MS) (x0 : Nat) (x1 : Int32) (x3 : Int32) (z0 : Int32) : Option ((Nat × Int32 × Int32 × Int32) ⊕ Int32) :=
  (some (x3 + 1)).bind fun v41 =>
  some (.inl (x0, x1, z0, v41))
noncomputable def bX10_isQuiet_35 (S : MS) (x0 : Nat) (x1 : Int32) (x3 : Int32) : Option ((Nat × Int32 × Int32 × Int32) ⊕ Int32) :=
  bX10_isQuiet_40 S x0 x1 x3 (1 : Int32)
noncomputable def bX10_isQuiet_39 (S : MS) (x0 : Nat) (x1 : Int32) (x3 : Int32) : Option ((Nat × Int32 × Int32 × Int32) ⊕ Int32) :=
  bX10_isQuiet_40 S x0 x1 x3 (0 : Int32)
noncomputable def bX10_isQuiet_4 (S : MS) (x0 : Nat) (x1 : Int32) (x2 : Int32) (x3 : Int32) : Option ((Nat × Int32 × Int32 × Int32) ⊕ Int32) :=
  (o_gI S x0 11 1).bind fun v6 =>
  if v6 ≤ x3 then
    (o_zb x2).bind fun z48 =>
    some (.inr z48)
  else
    if x2 = 0 then
      bX10_isQuiet_39 S x0 x1 x3
    else
      (fX10_hasBit x1 x3).bind fun v18 =>
      if v18 = 0 then
        bX10_isQuiet_35 S x0 x1 x3
      else
        (o_gP S x0 11 25).bind fun v25 =>
        (o_ld S v25 12 x3).bind fun v29 =>
        if (v29 &&& x1) = 0 then
          bX10_isQuiet_35 S x0 x1 x3
        else
          bX10_isQuiet_39 S x0 x1 x3
noncomputable def sX10_isQuiet (S : MS) : (Nat × Int32 × Int32 × Int32) → Option ((Nat × Int32 × Int32 × Int32) ⊕ Int32) := (fun t => bX10_isQuiet_4 S t.1 t.2.1 t.2.2.1 t.2.2.2)
noncomputable def hX10_isQuiet_4 (S : MS) (x0 : Nat) (x1 : Int32) (x2 : Int32) (x3 : Int32) : Option Int32 := lim (sX10_isQuiet S) (x0, x1, x2, x3)
theorem qX10_isQuiet_4 (S : MS) (x0 : Nat) (x1 : Int32) (x2 : Int32) (x3 : Int32) : hX10_isQuiet_4 S x0 x1 x2 x3 = fin (sX10_isQuiet S) (bX10_isQuiet_4 S x0 x1 x2 x3) := lim_eq _ _
noncomputable def fX10_isQuiet (S : MS) (a0 : Nat) (a1 : Int32) : Option Int32 := fin (sX10_isQuiet S) (bX10_isQuiet_0 S a0 a1)
noncomputable def bX10_findDoubted_0 (S : MS) (x0 : Nat) : Option (((Nat × Int32 × Int32 × MS) ⊕ ((Nat × Int32 × Int32 × MS) ⊕ ((Nat × Int32 × Int32 × Int32 × MS) ⊕ (Nat × Int32 × Int32 × Int32 × MS)))) ⊕ MS) :=
  some (.inl (.inl (x0, (0 : Int32), (0 : Int32), S)))
noncomputable def bX10_findDoubted_36 (S : MS) (x0 : Nat) (x2 : Int32) (z0 : Int32) (z1 : Int32) : Option (((Nat × Int32 × Int32 × MS) ⊕ ((Nat × Int32 × Int32 × MS) ⊕ ((Nat × Int32 × Int32 × Int32 × MS) ⊕ (Nat × Int32 × Int32 × Int32 × MS)))) ⊕ MS) :=
  (some ((z0 ||| z1))).bind fun v37 =>
  (some (x2 + 1)).bind fun v38 =>
  some (.inl (.inl (x0, v37, v38, S)))
noncomputable def bX10_findDoubted_4 (S : MS) (x0 : Nat) (x1 : Int32) (x2 : Int32) : Option (((Nat × Int32 × Int32 × MS) ⊕ ((Nat × Int32 × Int32 × MS) ⊕ ((Nat × Int32 × Int32 × Int32 × MS) ⊕ (Nat × Int32 × Int32 × Int32 × MS)))) ⊕ MS) :=
  (o_gI S x0 11 1).bind fun v6 =>
  if v6 ≤ x2 then
    some (.inl (.inr (.inl (x0, x1, (0 : Int32), S))))
  else
    (o_gP S x0 11 25).bind fun v13 =>
    (o_st S v13 12 x2 (0 : Int32)).bind fun S18 =>
    (o_gP S18 x0 11 20).bind fun v21 =>
    (o_ld S18 v21 12 x2).bind fun v25 =>
    if v25 < 0 then
      bX10_findDoubted_36 S18 x0 x2 x1 (0 : Int32)
    else
      bX10_findDoubted_36 S18 x0 x2 x1 ((1 : Int32) <<< (x2 &&& 31))
noncomputable def bX10_findDoubted_46 (S : MS) (x0 : Nat) (x1 : Int32) (x2 : Int32) : Option (((Nat × Int32 × Int32 × MS) ⊕ ((Nat × Int32 × Int32 × MS) ⊕ ((Nat × Int32 × Int32 × Int32 × MS) ⊕ (Nat × Int32 × Int32 × Int32 × MS)))) ⊕ MS) :=
  (o_gI S x0 11 1).bind fun v48 =>
  if v48 ≤ x2 then
    (o_sI S x0 11 23 x1).bind fun S126 =>
    (fX10_count x1).bind fun v130 =>
    some (.inl (.inr (.inr (.inr (x0, x1, v130, (0 : Int32), S126)))))
  else
    some (.inl (.inr (.inr (.inl (x0, x1, x2, (0 : Int32), S)))))
noncomputable def bX10_findDoubted_110 (S : MS) (x0 : Nat) (x1 : Int32) (x2 : Int32) (x3 : Int32) (z0 : Nat) (z1 : Int32) (z2 : Int32) (z3 : Int32) : Option (((Nat × Int32 × Int32 × MS) ⊕ ((Nat × Int32 × Int32 × MS) ⊕ ((Nat × Int32 × Int32 × Int32 × MS) ⊕ (Nat × Int32 × Int32 × Int32 × MS)))) ⊕ MS) :=
  (o_st S z0 12 z1 (z2 ||| z3)).bind fun S111 =>
  (some (x3 + 1)).bind fun v112 =>
  some (.inl (.inr (.inr (.inl (x0, x1, x2, v112, S111)))))
noncomputable def bX10_findDoubted_109 (S : MS) (x0 : Nat) (x1 : Int32) (x2 : Int32) (x3 : Int32) (z0 : Nat) (z1 : Int32) (z2 : Int32) : Option (((Nat × Int32 × Int32 × MS) ⊕ ((Nat × Int32 × Int32 × MS) ⊕ ((Nat × Int32 × Int32 × Int32 × MS) ⊕ (Nat × Int32 × Int32 × Int32 × MS)))) ⊕ MS) :=
  bX10_findDoubted_110 S x0 x1 x2 x3 z0 z1 z2 (0 : Int32)
noncomputable def bX10_findDoubted_56 (S : MS) (x0 : Nat) (x1 : Int32) (x2 : Int32) (x3 : Int32) : Option (((Nat × Int32 × Int32 × MS) ⊕ ((Nat × Int32 × Int32 × MS) ⊕ ((Nat × Int32 × Int32 × Int32 × MS) ⊕ (Nat × Int32 × Int32 × Int32 × MS)))) ⊕ MS) :=
  (o_gI S x0 11 1).bind fun v58 =>
  if v58 ≤ x3 then
    (some (x2 + 1)).bind fun v118 =>
    some (.inl (.inr (.inl (x0, x1, v118, S))))
  else
    (o_gP S x0 11 25).bind fun v65 =>
    (o_ld S v65 12 x2).bind fun v70 =>
    if x2 = x3 then
      bX10_findDoubted_109 S x0 x1 x2 x3 v65 x2 v70
    else
      (o_gP S x0 11 20).bind fun v77 =>
      (o_ld S v77 12 x2).bind fun v81 =>
      if v81 < 0 then
        bX10_findDoubted_109 S x0 x1 x2 x3 v65 x2 v70
      else
        (o_gP S x0 11 20).bind fun v86 =>
        (o_ld S v86 12 x3).bind fun v90 =>
        if v90 < 0 then
          bX10_findDoubted_109 S x0 x1 x2 x3 v65 x2 v70
        else
          (o_is S x0 11).bind fun _ =>
          (fX10_doQuarrel S x0 x2 x3).bind fun v97 =>
          if v97 = 0 then
            bX10_findDoubted_109 S x0 x1 x2 x3 v65 x2 v70
          else
            bX10_findDoubted_110 S x0 x1 x2 x3 v65 x2 v70 ((1 : Int32) <<< (x3 &&& 31))
noncomputable def bX10_findDoubted_184 (S : MS) (x0 : Nat) (x1 : Int32) (x2 : Int32) (x3 : Int32) : Option (((Nat × Int32 × Int32 × MS) ⊕ ((Nat × Int32 × Int32 × MS) ⊕ ((Nat × Int32 × Int32 × Int32 × MS) ⊕ (Nat × Int32 × Int32 × Int32 × MS)))) ⊕ MS) :=
  (some (x3 + 1)).bind fun v184 =>
  some (.inl (.inr (.inr (.inr (x0, x1, x2, v184, S)))))
noncomputable def bX10_findDoubted_136 (S : MS) (x0 : Nat) (x1 : Int32) (x2 : Int32) (x3 : Int32) : Option (((Nat × Int32 × Int32 × MS) ⊕ ((Nat × Int32 × Int32 × MS) ⊕ ((Nat × Int32 × Int32 × Int32 × MS) ⊕ (Nat × Int32 × Int32 × Int32 × MS)))) ⊕ MS) :=
  (o_gI S x0 11 1).bind fun v139 =>
  if ((1 : Int32) <<< (v139 &&& 31)) ≤ x3 then
    some (.inr S)
  else
    (fX10_count x3).bind fun v147 =>
    if x2 ≤ v147 then
      bX10_findDoubted_184 S x0 x1 x2 x3
    else
      if (x3 &&& (x1 ^^^ (-1 : Int32))) = 0 then
        (o_is S x0 11).bind fun _ =>
        (fX10_isQuiet S x0 (x1 &&& (x3 ^^^ (-1 : Int32)))).bind fun v168 =>
        if v168 = 0 then
          bX10_findDoubted_184 S x0 x1 x2 x3
        else
          (o_sI S x0 11 23 x3).bind fun S176 =>
          (fX10_count x3).bind fun v180 =>
          bX10_findDoubted_184 S176 x0 x1 v180 x3
      else
        bX10_findDoubted_184 S x0 x1 x2 x3
noncomputable def sX10_findDoubted : ((Nat × Int32 × Int32 × MS) ⊕ ((Nat × Int32 × Int32 × MS) ⊕ ((Nat × Int32 × Int32 × Int32 × MS) ⊕ (Nat × Int32 × Int32 × Int32 × MS)))) → Option (((Nat × Int32 × Int32 × MS) ⊕ ((Nat × Int32 × Int32 × MS) ⊕ ((Nat × Int32 × Int32 × Int32 × MS) ⊕ (Nat × Int32 × Int32 × Int32 × MS)))) ⊕ MS) := (Sum.elim (fun t => bX10_findDoubted_4 t.2.2.2 t.1 t.2.1 t.2.2.1) (Sum.elim (fun t => bX10_findDoubted_46 t.2.2.2 t.1 t.2.1 t.2.2.1) (Sum.elim (fun t => bX10_findDoubted_56 t.2.2.2.2 t.1 t.2.1 t.2.2.1 t.2.2.2.1) (fun t => bX10_findDoubted_136 t.2.2.2.2 t.1 t.2.1 t.2.2.1 t.2.2.2.1))))
noncomputable def hX10_findDoubted_4 (S : MS) (x0 : Nat) (x1 : Int32) (x2 : Int32) : Option MS := lim (sX10_findDoubted) (.inl (x0, x1, x2, S))
theorem qX10_findDoubted_4 (S : MS) (x0 : Nat) (x1 : Int32) (x2 : Int32) : hX10_findDoubted_4 S x0 x1 x2 = fin (sX10_findDoubted) (bX10_findDoubted_4 S x0 x1 x2) := lim_eq _ _
noncomputable def hX10_findDoubted_46 (S : MS) (x0 : Nat) (x1 : Int32) (x2 : Int32) : Option MS := lim (sX10_findDoubted) (.inr (.inl (x0, x1, x2, S)))
theorem qX10_findDoubted_46 (S : MS) (x0 : Nat) (x1 : Int32) (x2 : Int32) : hX10_findDoubted_46 S x0 x1 x2 = fin (sX10_findDoubted) (bX10_findDoubted_46 S x0 x1 x2) := lim_eq _ _
noncomputable def hX10_findDoubted_56 (S : MS) (x0 : Nat) (x1 : Int32) (x2 : Int32) (x3 : Int32) : Option MS := lim (sX10_findDoubted) (.inr (.inr (.inl (x0, x1, x2, x3, S))))
theorem qX10_findDoubted_56 (S : MS) (x0 : Nat) (x1 : Int32) (x2 : Int32) (x3 : Int32) : hX10_findDoubted_56 S x0 x1 x2 x3 = fin (sX10_findDoubted) (bX10_findDoubted_56 S x0 x1 x2 x3) := lim_eq _ _
noncomputable def hX10_findDoubted_136 (S : MS) (x0 : Nat) (x1 : Int32) (x2 : Int32) (x3 : Int32) : Option MS := lim (sX10_findDoubted) (.inr (.inr (.inr (x0, x1, x2, x3, S))))
theorem qX10_findDoubted_136 (S : MS) (x0 : Nat) (x1 : Int32) (x2 : Int32) (x3 : Int32) : hX10_findDoubted_136 S x0 x1 x2 x3 = fin (sX10_findDoubted) (bX10_findDoubted_136 S x0 x1 x2 x3) := lim_eq _ _
noncomputable def fX10_findDoubted (S : MS) (a0 : Nat) : Option MS := fin (sX10_findDoubted) (bX10_findDoubted_0 S a0)
noncomputable def bX10_lastWire_0 (S : MS) (x0 : Nat) (x1 : Int32) : Option ((Nat × Int32 × Int32 × Int32) ⊕ Int32) :=
  some (.inl (x0, x1, (-9 : Int32), (0 : Int32)))
noncomputable def bX10_lastWire_85 (S : MS) (x0 : Nat) (x1 : Int32) (x3 : Int32) (z0 : Int32) : Option ((Nat × Int32 × Int32 × Int32) ⊕ Int32) :=
  (some (x3 + 1)).bind fun v86 =>
  some (.inl (x0, x1, z0, v86))
noncomputable def bX10_lastWire_80 (S : MS) (x0 : Nat) (x1 : Int32) (x3 : Int32) : Option ((Nat × Int32 × Int32 × Int32) ⊕ Int32) :=
  bX10_lastWire_85 S x0 x1 x3 x3
noncomputable def bX10_lastWire_84 (S : MS) (x0 : Nat) (x1 : Int32) (x2 : Int32) (x3 : Int32) : Option ((Nat × Int32 × Int32 × Int32) ⊕ Int32) :=
  bX10_lastWire_85 S x0 x1 x3 x2
noncomputable def bX10_lastWire_54 (S : MS) (x0 : Nat) (x1 : Int32) (x2 : Int32) (x3 : Int32) (z0 : Int32) : Option ((Nat × Int32 × Int32 × Int32) ⊕ Int32) :=
  if z0 = 0 then
    bX10_lastWire_84 S x0 x1 x2 x3
  else
    if x2 < 0 then
      bX10_lastWire_80 S x0 x1 x3
    else
      (o_gP S x0 11 11).bind fun v66 =>
      (o_ld S v66 12 x3).bind fun v70 =>
      (o_gP S x0 11 11).bind fun v72 =>
      (o_ld S v72 12 x2).bind fun v76 =>
      if v70 < v76 then
        bX10_lastWire_84 S x0 x1 x2 x3
      else
        bX10_lastWire_80 S x0 x1 x3
noncomputable def bX10_lastWire_53 (S : MS) (x0 : Nat) (x1 : Int32) (x2 : Int32) (x3 : Int32) : Option ((Nat × Int32 × Int32 × Int32) ⊕ Int32) :=
  bX10_lastWire_54 S x0 x1 x2 x3 (0 : Int32)
noncomputable def bX10_lastWire_5 (S : MS) (x0 : Nat) (x1 : Int32) (x2 : Int32) (x3 : Int32) : Option ((Nat × Int32 × Int32 × Int32) ⊕ Int32) :=
  (o_gI S x0 11 8).bind fun v7 =>
  if v7 ≤ x3 then
    some (.inr x2)
  else
    (o_gP S x0 11 9).bind fun v14 =>
    (o_ld S v14 12 x3).bind fun v18 =>
    if v18 = x1 then
      (o_gP S x0 11 10).bind fun v24 =>
      (o_ld S v24 12 x3).bind fun v28 =>
      (o_gI S x0 11 15).bind fun v30 =>
      if v28 = v30 then
        (o_gP S x0 11 11).bind fun v37 =>
        (o_ld S v37 12 x3).bind fun v41 =>
        (o_gI S x0 11 16).bind fun v43 =>
        if v43 < v41 then
          bX10_lastWire_53 S x0 x1 x2 x3
        else
          bX10_lastWire_54 S x0 x1 x2 x3 (1 : Int32)
      else
        bX10_lastWire_53 S x0 x1 x2 x3
    else
      bX10_lastWire_53 S x0 x1 x2 x3
noncomputable def sX10_lastWire (S : MS) : (Nat × Int32 × Int32 × Int32) → Option ((Nat × Int32 × Int32 × Int32) ⊕ Int32) := (fun t => bX10_lastWire_5 S t.1 t.2.1 t.2.2.1 t.2.2.2)
noncomputable def hX10_lastWire_5 (S : MS) (x0 : Nat) (x1 : Int32) (x2 : Int32) (x3 : Int32) : Option Int32 := lim (sX10_lastWire S) (x0, x1, x2, x3)
theorem qX10_lastWire_5 (S : MS) (x0 : Nat) (x1 : Int32) (x2 : Int32) (x3 : Int32) : hX10_lastWire_5 S x0 x1 x2 x3 = fin (sX10_lastWire S) (bX10_lastWire_5 S x0 x1 x2 x3) := lim_eq _ _
noncomputable def fX10_lastWire (S : MS) (a0 : Nat) (a1 : Int32) : Option Int32 := fin (sX10_lastWire S) (bX10_lastWire_0 S a0 a1)
noncomputable def bX10_by_17 (z0 : Int32) : Option Int32 :=
  some z0
noncomputable def bX10_by_0 (x0 : Int32) (x1 : Int32) : Option Int32 :=
  (o_nz x1).bind fun w2 =>
  (some ((x0 / x1))).bind fun v3 =>
  (o_nz x1).bind fun w6 =>
  if 0 ≤ (x0 - x0 / x1 * x1) then
    bX10_by_17 v3
  else
    bX10_by_17 (v3 - (1 : Int32))
noncomputable def fX10_by (a0 : Int32) (a1 : Int32) : Option Int32 := bX10_by_0 a0 a1
noncomputable def bX10_levelBy_22 (S : MS) (x0 : Nat) (x1 : Int32) (z0 : Int32) (z1 : Int32) : Option Int32 :=
  (o_gP S x0 11 5).bind fun v24 =>
  (o_ld S v24 12 x1).bind fun v28 =>
  (fX10_by (v28 * (12 : Int32)) (100 : Int32)).bind fun v34 =>
  some ((z0 + z1) + v34)
noncomputable def bX10_levelBy_0 (S : MS) (x0 : Nat) (x1 : Int32) (x2 : Int32) : Option Int32 :=
  (some ((x2 / (100 : Int32)))).bind fun v4 =>
  if (500 : Int32) ≤ v4 then
    bX10_levelBy_22 S x0 x1 v4 (9000 : Int32)
  else
    bX10_levelBy_22 S x0 x1 v4 (10000 : Int32)
noncomputable def fX10_levelBy (S : MS) (a0 : Nat) (a1 : Int32) (a2 : Int32) : Option Int32 := bX10_levelBy_0 S a0 a1 a2
noncomputable def bX10_far_0 (x0 : Int32) (x1 : Int32) : Option Int32 :=
  (some (((x0 - x0 / (12 : Int32) * (12 : Int32)) - (x1 - x1 / (12 : Int32) * (12 : Int32))))).bind fun v9 =>
  (some (((x0 / (12 : Int32)) - (x1 / (12 : Int32))))).bind fun v19 =>
  some ((v9 * v9) + (v19 * v19))
noncomputable def fX10_far (a0 : Int32) (a1 : Int32) : Option Int32 := bX10_far_0 a0 a1
noncomputable def bX10_guessOf_0 (S : MS) (x0 : Nat) (x1 : Int32) : Option (((Nat × Int32 × Int32 × Int32 × Int32 × Int32) ⊕ (Nat × Int32 × Int32 × Int32 × Int32 × Int32 × Int32)) ⊕ Int32) :=
  (o_gP S x0 11 9).bind fun v1 =>
  (o_ld S v1 12 x1).bind fun v5 =>
  (some (((1 : Int32) <<< (v5 &&& 31)))).bind fun v15 =>
  some (.inl (.inl (x0, v5, (0 : Int32), (0 : Int32), v15, (1 : Int32))))
noncomputable def bX10_guessOf_220 (S : MS) (z0 : Int32) : Option (((Nat × Int32 × Int32 × Int32 × Int32 × Int32) ⊕ (Nat × Int32 × Int32 × Int32 × Int32 × Int32 × Int32)) ⊕ Int32) :=
  some (.inr z0)
noncomputable def bX10_guessOf_203 (S : MS) (x3 : Int32) (x4 : Int32) : Option (((Nat × Int32 × Int32 × Int32 × Int32 × Int32) ⊕ (Nat × Int32 × Int32 × Int32 × Int32 × Int32 × Int32)) ⊕ Int32) :=
  if x4 = 0 then
    bX10_guessOf_220 S (10000 : Int32)
  else
    (fX10_by x3 x4).bind fun v217 =>
    bX10_guessOf_220 S v217
noncomputable def bX10_guessOf_20 (S : MS) (x0 : Nat) (x2 : Int32) (x3 : Int32) (x4 : Int32) (x5 : Int32) (x6 : Int32) : Option (((Nat × Int32 × Int32 × Int32 × Int32 × Int32) ⊕ (Nat × Int32 × Int32 × Int32 × Int32 × Int32 × Int32)) ⊕ Int32) :=
  if x6 = 0 then
    bX10_guessOf_203 S x3 x4
  else
    if (3 : Int32) ≤ x4 then
      bX10_guessOf_203 S x3 x4
    else
      some (.inl (.inr (x0, x2, x3, x4, x5, (-9 : Int32), (0 : Int32))))
noncomputable def bX10_guessOf_142 (S : MS) (x0 : Nat) (x2 : Int32) (x3 : Int32) (x4 : Int32) (x5 : Int32) (x8 : Int32) (z0 : Int32) : Option (((Nat × Int32 × Int32 × Int32 × Int32 × Int32) ⊕ (Nat × Int32 × Int32 × Int32 × Int32 × Int32 × Int32)) ⊕ Int32) :=
  (some (x8 + 1)).bind fun v144 =>
  some (.inl (.inr (x0, x2, x3, x4, x5, z0, v144)))
noncomputable def bX10_guessOf_135 (S : MS) (x0 : Nat) (x2 : Int32) (x3 : Int32) (x4 : Int32) (x5 : Int32) (x8 : Int32) : Option (((Nat × Int32 × Int32 × Int32 × Int32 × Int32) ⊕ (Nat × Int32 × Int32 × Int32 × Int32 × Int32 × Int32)) ⊕ Int32) :=
  bX10_guessOf_142 S x0 x2 x3 x4 x5 x8 x8
noncomputable def bX10_guessOf_140 (S : MS) (x0 : Nat) (x2 : Int32) (x3 : Int32) (x4 : Int32) (x5 : Int32) (x7 : Int32) (x8 : Int32) : Option (((Nat × Int32 × Int32 × Int32 × Int32 × Int32) ⊕ (Nat × Int32 × Int32 × Int32 × Int32 × Int32 × Int32)) ⊕ Int32) :=
  bX10_guessOf_142 S x0 x2 x3 x4 x5 x8 x7
noncomputable def bX10_guessOf_88 (S : MS) (x0 : Nat) (x2 : Int32) (x3 : Int32) (x4 : Int32) (x5 : Int32) (x7 : Int32) (x8 : Int32) (z0 : Int32) : Option (((Nat × Int32 × Int32 × Int32 × Int32 × Int32) ⊕ (Nat × Int32 × Int32 × Int32 × Int32 × Int32 × Int32)) ⊕ Int32) :=
  if z0 = 0 then
    bX10_guessOf_140 S x0 x2 x3 x4 x5 x7 x8
  else
    if x7 < 0 then
      bX10_guessOf_135 S x0 x2 x3 x4 x5 x8
    else
      (o_gP S x0 11 21).bind fun v101 =>
      (o_ld S v101 12 x8).bind fun v106 =>
      (o_gP S x0 11 21).bind fun v108 =>
      (o_ld S v108 12 x2).bind fun v112 =>
      (fX10_far v106 v112).bind fun v113 =>
      (o_gP S x0 11 21).bind fun v117 =>
      (o_ld S v117 12 x7).bind fun v122 =>
      (o_gP S x0 11 21).bind fun v124 =>
      (o_ld S v124 12 x2).bind fun v128 =>
      (fX10_far v122 v128).bind fun v129 =>
      if v129 ≤ v113 then
        bX10_guessOf_140 S x0 x2 x3 x4 x5 x7 x8
      else
        bX10_guessOf_135 S x0 x2 x3 x4 x5 x8
noncomputable def bX10_guessOf_87 (S : MS) (x0 : Nat) (x2 : Int32) (x3 : Int32) (x4 : Int32) (x5 : Int32) (x7 : Int32) (x8 : Int32) : Option (((Nat × Int32 × Int32 × Int32 × Int32 × Int32) ⊕ (Nat × Int32 × Int32 × Int32 × Int32 × Int32 × Int32)) ⊕ Int32) :=
  bX10_guessOf_88 S x0 x2 x3 x4 x5 x7 x8 (0 : Int32)
noncomputable def bX10_guessOf_200 (S : MS) (x0 : Nat) (x2 : Int32) (x3 : Int32) (x4 : Int32) (x5 : Int32) (x6 : Int32) : Option (((Nat × Int32 × Int32 × Int32 × Int32 × Int32) ⊕ (Nat × Int32 × Int32 × Int32 × Int32 × Int32 × Int32)) ⊕ Int32) :=
  some (.inl (.inl (x0, x2, x3, x4, x5, x6)))
noncomputable def bX10_guessOf_160 (S : MS) (x0 : Nat) (x2 : Int32) (x3 : Int32) (x4 : Int32) (x5 : Int32) (x7 : Int32) (z0 : Int32) : Option (((Nat × Int32 × Int32 × Int32 × Int32 × Int32) ⊕ (Nat × Int32 × Int32 × Int32 × Int32 × Int32 × Int32)) ⊕ Int32) :=
  if z0 = 0 then
    bX10_guessOf_200 S x0 x2 x3 x4 x5 z0
  else
    (o_gP S x0 11 14).bind fun v172 =>
    (o_gP S x0 11 20).bind fun v176 =>
    (o_ld S v176 12 x7).bind fun v181 =>
    (o_ld S v172 12 v181).bind fun v182 =>
    (o_is S x0 11).bind fun _ =>
    (fX10_levelBy S x0 x7 v182).bind fun v183 =>
    (some ((x3 + v183))).bind fun v187 =>
    (some (x4 + 1)).bind fun v188 =>
    (some ((x5 ||| ((1 : Int32) <<< (x7 &&& 31))))).bind fun v198 =>
    bX10_guessOf_200 S x0 x2 v187 v188 v198 z0
noncomputable def bX10_guessOf_38 (S : MS) (x0 : Nat) (x2 : Int32) (x3 : Int32) (x4 : Int32) (x5 : Int32) (x7 : Int32) (x8 : Int32) : Option (((Nat × Int32 × Int32 × Int32 × Int32 × Int32) ⊕ (Nat × Int32 × Int32 × Int32 × Int32 × Int32 × Int32)) ⊕ Int32) :=
  (o_gI S x0 11 1).bind fun v41 =>
  if v41 ≤ x8 then
    if x7 < 0 then
      bX10_guessOf_160 S x0 x2 x3 x4 x5 x7 (0 : Int32)
    else
      bX10_guessOf_160 S x0 x2 x3 x4 x5 x7 (1 : Int32)
  else
    (o_gP S x0 11 20).bind fun v48 =>
    (o_ld S v48 12 x8).bind fun v53 =>
    if v53 < 0 then
      bX10_guessOf_87 S x0 x2 x3 x4 x5 x7 x8
    else
      (fX10_hasBit x5 x8).bind fun v61 =>
      if v61 = 0 then
        (o_gP S x0 11 13).bind fun v68 =>
        (o_gP S x0 11 20).bind fun v72 =>
        (o_ld S v72 12 x8).bind fun v77 =>
        (o_ld S v68 12 v77).bind fun v78 =>
        if v78 = (1 : Int32) then
          bX10_guessOf_88 S x0 x2 x3 x4 x5 x7 x8 (1 : Int32)
        else
          bX10_guessOf_87 S x0 x2 x3 x4 x5 x7 x8
      else
        bX10_guessOf_87 S x0 x2 x3 x4 x5 x7 x8
noncomputable def sX10_guessOf (S : MS) : ((Nat × Int32 × Int32 × Int32 × Int32 × Int32) ⊕ (Nat × Int32 × Int32 × Int32 × Int32 × Int32 × Int32)) → Option (((Nat × Int32 × Int32 × Int32 × Int32 × Int32) ⊕ (Nat × Int32 × Int32 × Int32 × Int32 × Int32 × Int32)) ⊕ Int32) := (Sum.elim (fun t => bX10_guessOf_20 S t.1 t.2.1 t.2.2.1 t.2.2.2.1 t.2.2.2.2.1 t.2.2.2.2.2) (fun t => bX10_guessOf_38 S t.1 t.2.1 t.2.2.1 t.2.2.2.1 t.2.2.2.2.1 t.2.2.2.2.2.1 t.2.2.2.2.2.2))
noncomputable def hX10_guessOf_20 (S : MS) (x0 : Nat) (x2 : Int32) (x3 : Int32) (x4 : Int32) (x5 : Int32) (x6 : Int32) : Option Int32 := lim (sX10_guessOf S) (.inl (x0, x2, x3, x4, x5, x6))
theorem qX10_guessOf_20 (S : MS) (x0 : Nat) (x2 : Int32) (x3 : Int32) (x4 : Int32) (x5 : Int32) (x6 : Int32) : hX10_guessOf_20 S x0 x2 x3 x4 x5 x6 = fin (sX10_guessOf S) (bX10_guessOf_20 S x0 x2 x3 x4 x5 x6) := lim_eq _ _
noncomputable def hX10_guessOf_38 (S : MS) (x0 : Nat) (x2 : Int32) (x3 : Int32) (x4 : Int32) (x5 : Int32) (x7 : Int32) (x8 : Int32) : Option Int32 := lim (sX10_guessOf S) (.inr (x0, x2, x3, x4, x5, x7, x8))
theorem qX10_guessOf_38 (S : MS) (x0 : Nat) (x2 : Int32) (x3 : Int32) (x4 : Int32) (x5 : Int32) (x7 : Int32) (x8 : Int32) : hX10_guessOf_38 S x0 x2 x3 x4 x5 x7 x8 = fin (sX10_guessOf S) (bX10_guessOf_38 S x0 x2 x3 x4 x5 x7 x8) := lim_eq _ _
noncomputable def fX10_guessOf (S : MS) (a0 : Nat) (a1 : Int32) : Option Int32 := fin (sX10_guessOf S) (bX10_guessOf_0 S a0 a1)
noncomputable def bX10_fits_34 (S : MS) (z0 : Int32) : Option Int32 :=
  (o_zb z0).bind fun z34 =>
  some z34
noncomputable def bX10_fits_29 (S : MS) : Option Int32 :=
  bX10_fits_34 S (1 : Int32)
noncomputable def bX10_fits_0 (S : MS) (x0 : Nat) (x1 : Int32) (x2 : Int32) (x3 : Int32) (x4 : Int32) : Option Int32 :=
  (o_gP S x0 11 12).bind fun v1 =>
  (o_ld S v1 12 ((((15 : Int32) * x1) + ((5 : Int32) * x2)) + x3)).bind fun v14 =>
  if v14 < 0 then
    bX10_fits_29 S
  else
    if v14 = x4 then
      bX10_fits_29 S
    else
      bX10_fits_34 S (0 : Int32)
noncomputable def fX10_fits (S : MS) (a0 : Nat) (a1 : Int32) (a2 : Int32) (a3 : Int32) (a4 : Int32) : Option Int32 := bX10_fits_0 S a0 a1 a2 a3 a4
noncomputable def bX10_readingOf_147 (S : MS) (z0 : Int32) : Option Int32 :=
  some z0
noncomputable def bX10_readingOf_136 (S : MS) (x3 : Int32) (x8 : Int32) : Option Int32 :=
  bX10_readingOf_147 S (((10 : Int32) * x3) + x8)
noncomputable def bX10_readingOf_146 (S : MS) : Option Int32 :=
  bX10_readingOf_147 S (-1 : Int32)
noncomputable def bX10_readingOf_116 (S : MS) (x2 : Int32) (x3 : Int32) (x8 : Int32) (z0 : Int32) : Option Int32 :=
  if z0 = 0 then
    bX10_readingOf_146 S
  else
    if x2 = 0 then
      if (36 : Int32) < (x3 / (100 : Int32)) then
        bX10_readingOf_146 S
      else
        bX10_readingOf_136 S x3 x8
    else
      bX10_readingOf_136 S x3 x8
noncomputable def bX10_readingOf_115 (S : MS) (x2 : Int32) (x3 : Int32) (x8 : Int32) : Option Int32 :=
  bX10_readingOf_116 S x2 x3 x8 (0 : Int32)
noncomputable def bX10_readingOf_0 (S : MS) (x0 : Nat) (x1 : Int32) (x2 : Int32) (x3 : Int32) : Option Int32 :=
  (some ((x3 / (1000 : Int32)))).bind fun v5 =>
  (some (((x3 / (100 : Int32)) - (x3 / (100 : Int32)) / (10 : Int32) * (10 : Int32)))).bind fun v14 =>
  (some (((x3 / (10 : Int32)) - (x3 / (10 : Int32)) / (10 : Int32) * (10 : Int32)))).bind fun v23 =>
  (some ((x3 - x3 / (10 : Int32) * (10 : Int32)))).bind fun v29 =>
  (some (((((v5 + ((3 : Int32) * v14)) + v23) + ((3 : Int32) * v29)) - (((v5 + ((3 : Int32) * v14)) + v23) + ((3 : Int32) * v29)) / (10 : Int32) * (10 : Int32)))).bind fun v49 =>
  (o_is S x0 11).bind fun _ =>
  (fX10_fits S x0 x1 x2 (0 : Int32) v5).bind fun v57 =>
  if v57 = 0 then
    bX10_readingOf_115 S x2 x3 v49
  else
    (o_is S x0 11).bind fun _ =>
    (fX10_fits S x0 x1 x2 (1 : Int32) v14).bind fun v69 =>
    if v69 = 0 then
      bX10_readingOf_115 S x2 x3 v49
    else
      (o_is S x0 11).bind fun _ =>
      (fX10_fits S x0 x1 x2 (2 : Int32) v23).bind fun v81 =>
      if v81 = 0 then
        bX10_readingOf_115 S x2 x3 v49
      else
        (o_is S x0 11).bind fun _ =>
        (fX10_fits S x0 x1 x2 (3 : Int32) v29).bind fun v93 =>
        if v93 = 0 then
          bX10_readingOf_115 S x2 x3 v49
        else
          (o_is S x0 11).bind fun _ =>
          (fX10_fits S x0 x1 x2 (4 : Int32) v49).bind fun v105 =>
          if v105 = 0 then
            bX10_readingOf_115 S x2 x3 v49
          else
            bX10_readingOf_116 S x2 x3 v49 (1 : Int32)
noncomputable def fX10_readingOf (S : MS) (a0 : Nat) (a1 : Int32) (a2 : Int32) (a3 : Int32) : Option Int32 := bX10_readingOf_0 S a0 a1 a2 a3
noncomputable def bX10_mendedOf_0 (S : MS) (x0 : Nat) (x1 : Int32) : Option ((Nat × Int32 × Int32 × Int32 × Int32) ⊕ Int32) :=
  (o_gP S x0 11 13).bind fun v1 =>
  (o_ld S v1 12 x1).bind fun v5 =>
  if v5 = (1 : Int32) then
    (o_gP S x0 11 14).bind fun v11 =>
    (o_ld S v11 12 x1).bind fun v15 =>
    some (.inr v15)
  else
    (o_is S x0 11).bind fun _ =>
    (fX10_guessOf S x0 x1).bind fun v19 =>
    some (.inl (x0, x1, v19, (-9 : Int32), (0 : Int32)))
noncomputable def bX10_mendedOf_95 (S : MS) (x0 : Nat) (x1 : Int32) (x2 : Int32) (x3 : Int32) (x4 : Int32) : Option ((Nat × Int32 × Int32 × Int32 × Int32) ⊕ Int32) :=
  (some (x4 + 1)).bind fun v95 =>
  some (.inl (x0, x1, x2, x3, v95))
noncomputable def bX10_mendedOf_92 (S : MS) (x0 : Nat) (x1 : Int32) (x2 : Int32) (x4 : Int32) (x5 : Int32) : Option ((Nat × Int32 × Int32 × Int32 × Int32) ⊕ Int32) :=
  bX10_mendedOf_95 S x0 x1 x2 x5 x4
noncomputable def bX10_mendedOf_29 (S : MS) (x0 : Nat) (x1 : Int32) (x2 : Int32) (x3 : Int32) (x4 : Int32) : Option ((Nat × Int32 × Int32 × Int32 × Int32) ⊕ Int32) :=
  if (10000 : Int32) ≤ x4 then
    some (.inr x3)
  else
    (o_is S x0 11).bind fun _ =>
    (fX10_readingOf S x0 x1 (1 : Int32) x4).bind fun v42 =>
    if v42 < 0 then
      bX10_mendedOf_95 S x0 x1 x2 x3 x4
    else
      if x3 < 0 then
        bX10_mendedOf_92 S x0 x1 x2 x4 v42
      else
        (o_gP S x0 11 9).bind fun v58 =>
        (o_ld S v58 12 x1).bind fun v62 =>
        (o_is S x0 11).bind fun _ =>
        (fX10_levelBy S x0 v62 v42).bind fun v65 =>
        (fX10_sizeOf (v65 - x2)).bind fun v70 =>
        (o_gP S x0 11 9).bind fun v75 =>
        (o_ld S v75 12 x1).bind fun v79 =>
        (o_is S x0 11).bind fun _ =>
        (fX10_levelBy S x0 v79 x3).bind fun v81 =>
        (fX10_sizeOf (v81 - x2)).bind fun v86 =>
        if v86 ≤ v70 then
          bX10_mendedOf_95 S x0 x1 x2 x3 x4
        else
          bX10_mendedOf_92 S x0 x1 x2 x4 v42
noncomputable def sX10_mendedOf (S : MS) : (Nat × Int32 × Int32 × Int32 × Int32) → Option ((Nat × Int32 × Int32 × Int32 × Int32) ⊕ Int32) := (fun t => bX10_mendedOf_29 S t.1 t.2.1 t.2.2.1 t.2.2.2.1 t.2.2.2.2)
noncomputable def hX10_mendedOf_29 (S : MS) (x0 : Nat) (x1 : Int32) (x2 : Int32) (x3 : Int32) (x4 : Int32) : Option Int32 := lim (sX10_mendedOf S) (x0, x1, x2, x3, x4)
theorem qX10_mendedOf_29 (S : MS) (x0 : Nat) (x1 : Int32) (x2 : Int32) (x3 : Int32) (x4 : Int32) : hX10_mendedOf_29 S x0 x1 x2 x3 x4 = fin (sX10_mendedOf S) (bX10_mendedOf_29 S x0 x1 x2 x3 x4) := lim_eq _ _
noncomputable def fX10_mendedOf (S : MS) (a0 : Nat) (a1 : Int32) : Option Int32 := fin (sX10_mendedOf S) (bX10_mendedOf_0 S a0 a1)
noncomputable def bX10_back_25 (z0 : Int32) : Option Int32 :=
  some z0
noncomputable def bX10_back_0 (x0 : Int32) : Option Int32 :=
  (some ((((x0 - x0 / (22 : Int32) * (22 : Int32)) + (22 : Int32)) - ((x0 - x0 / (22 : Int32) * (22 : Int32)) + (22 : Int32)) / (22 : Int32) * (22 : Int32)))).bind fun v10 =>
  if v10 ≤ (11 : Int32) then
    bX10_back_25 v10
  else
    bX10_back_25 ((22 : Int32) - v10)
noncomputable def fX10_back (a0 : Int32) : Option Int32 := bX10_back_0 a0
noncomputable def bX10_in_18 (z0 : Int32) : Option Int32 :=
  (o_zb z0).bind fun z18 =>
  some z18
noncomputable def bX10_in_17 : Option Int32 :=
  bX10_in_18 (0 : Int32)
noncomputable def bX10_in_0 (x0 : Int64) (x2 : Int64) (x4 : Int64) : Option Int32 :=
  if (lg_cmp x0 x2) < 0 then
    bX10_in_17
  else
    if 0 < (lg_cmp x0 x4) then
      bX10_in_17
    else
      bX10_in_18 (1 : Int32)
noncomputable def fX10_in (a0 : Int64) (a2 : Int64) (a4 : Int64) : Option Int32 := bX10_in_0 a0 a2 a4
noncomputable def bX10_isPlace_29 (z0 : Int32) : Option Int32 :=
  (o_zb z0).bind fun z29 =>
  some z29
noncomputable def bX10_isPlace_28 : Option Int32 :=
  bX10_isPlace_29 (0 : Int32)
noncomputable def bX10_isPlace_0 (x0 : Int32) (x1 : Int32) : Option Int32 :=
  (fX10_in (x0.toInt64) (0 : Int64) (11 : Int64)).bind fun v6 =>
  if v6 = 0 then
    bX10_isPlace_28
  else
    (fX10_in (x1.toInt64) (0 : Int64) (11 : Int64)).bind fun v18 =>
    if v18 = 0 then
      bX10_isPlace_28
    else
      bX10_isPlace_29 (1 : Int32)
noncomputable def fX10_isPlace (a0 : Int32) (a1 : Int32) : Option Int32 := bX10_isPlace_0 a0 a1
noncomputable def bX10_placeOf_114 (S : MS) (z0 : Int32) : Option Int32 :=
  some z0
noncomputable def bX10_placeOf_0 (S : MS) (x0 : Nat) (x1 : Int32) (x2 : Int32) : Option Int32 :=
  (o_gP S x0 11 2).bind fun v1 =>
  (o_ld S v1 12 x1).bind fun v5 =>
  if v5 = 0 then
    (o_gP S x0 11 4).bind fun v12 =>
    (o_ld S v12 12 x1).bind fun v16 =>
    (o_gP S x0 11 3).bind fun v19 =>
    (o_ld S v19 12 x1).bind fun v23 =>
    some (((12 : Int32) * v16) + v23)
  else
    (o_gP S x0 11 3).bind fun v27 =>
    (o_ld S v27 12 x1).bind fun v31 =>
    (o_gP S x0 11 6).bind fun v33 =>
    (o_ld S v33 12 x1).bind fun v37 =>
    (fX10_by (v37 * x2) (10 : Int32)).bind fun v42 =>
    (some ((v31 + v42))).bind fun v46 =>
    (o_gP S x0 11 4).bind fun v48 =>
    (o_ld S v48 12 x1).bind fun v52 =>
    (o_gP S x0 11 7).bind fun v54 =>
    (o_ld S v54 12 x1).bind fun v58 =>
    (fX10_by (v58 * x2) (10 : Int32)).bind fun v63 =>
    (some ((v52 + v63))).bind fun v67 =>
    (o_gP S x0 11 2).bind fun v70 =>
    (o_ld S v70 12 x1).bind fun v74 =>
    if v74 = (2 : Int32) then
      (fX10_back v67).bind fun v83 =>
      (fX10_back v46).bind fun v88 =>
      some (((12 : Int32) * v83) + v88)
    else
      (fX10_isPlace v46 v67).bind fun v96 =>
      if v96 = 0 then
        bX10_placeOf_114 S (-9 : Int32)
      else
        bX10_placeOf_114 S (((12 : Int32) * v67) + v46)
noncomputable def fX10_placeOf (S : MS) (a0 : Nat) (a1 : Int32) (a2 : Int32) : Option Int32 := bX10_placeOf_0 S a0 a1 a2
noncomputable def bX10_valueAt_0 (S : MS) (x0 : Nat) (x1 : Int32) : Option ((Nat × Int32 × Int32 × Int32) ⊕ Int32) :=
  some (.inl (x0, x1, (-9 : Int32), (0 : Int32)))
noncomputable def bX10_valueAt_77 (S : MS) (x0 : Nat) (x1 : Int32) (x3 : Int32) (z0 : Int32) : Option ((Nat × Int32 × Int32 × Int32) ⊕ Int32) :=
  (some (x3 + 1)).bind fun v78 =>
  some (.inl (x0, x1, z0, v78))
noncomputable def bX10_valueAt_72 (S : MS) (x0 : Nat) (x1 : Int32) (x3 : Int32) : Option ((Nat × Int32 × Int32 × Int32) ⊕ Int32) :=
  bX10_valueAt_77 S x0 x1 x3 x3
noncomputable def bX10_valueAt_76 (S : MS) (x0 : Nat) (x1 : Int32) (x2 : Int32) (x3 : Int32) : Option ((Nat × Int32 × Int32 × Int32) ⊕ Int32) :=
  bX10_valueAt_77 S x0 x1 x3 x2
noncomputable def bX10_valueAt_38 (S : MS) (x0 : Nat) (x1 : Int32) (x2 : Int32) (x3 : Int32) (z0 : Int32) : Option ((Nat × Int32 × Int32 × Int32) ⊕ Int32) :=
  if z0 = 0 then
    bX10_valueAt_76 S x0 x1 x2 x3
  else
    if x2 < 0 then
      bX10_valueAt_72 S x0 x1 x3
    else
      (o_gP S x0 11 21).bind fun v50 =>
      (o_ld S v50 12 x3).bind fun v54 =>
      (fX10_far v54 x1).bind fun v56 =>
      (o_gP S x0 11 21).bind fun v60 =>
      (o_ld S v60 12 x2).bind fun v64 =>
      (fX10_far v64 x1).bind fun v66 =>
      if v66 ≤ v56 then
        bX10_valueAt_76 S x0 x1 x2 x3
      else
        bX10_valueAt_72 S x0 x1 x3
noncomputable def bX10_valueAt_37 (S : MS) (x0 : Nat) (x1 : Int32) (x2 : Int32) (x3 : Int32) : Option ((Nat × Int32 × Int32 × Int32) ⊕ Int32) :=
  bX10_valueAt_38 S x0 x1 x2 x3 (0 : Int32)
noncomputable def bX10_valueAt_99 (S : MS) (z0 : Int32) : Option ((Nat × Int32 × Int32 × Int32) ⊕ Int32) :=
  some (.inr z0)
noncomputable def bX10_valueAt_5 (S : MS) (x0 : Nat) (x1 : Int32) (x2 : Int32) (x3 : Int32) : Option ((Nat × Int32 × Int32 × Int32) ⊕ Int32) :=
  (o_gI S x0 11 1).bind fun v7 =>
  if v7 ≤ x3 then
    if 0 ≤ x2 then
      (o_gP S x0 11 22).bind fun v94 =>
      (o_ld S v94 12 x2).bind fun v98 =>
      bX10_valueAt_99 S v98
    else
      bX10_valueAt_99 S (-9 : Int32)
  else
    (o_gP S x0 11 20).bind fun v14 =>
    (o_ld S v14 12 x3).bind fun v18 =>
    if v18 < 0 then
      bX10_valueAt_37 S x0 x1 x2 x3
    else
      (o_gI S x0 11 23).bind fun v23 =>
      (fX10_hasBit v23 x3).bind fun v27 =>
      if v27 = 0 then
        bX10_valueAt_38 S x0 x1 x2 x3 (1 : Int32)
      else
        bX10_valueAt_37 S x0 x1 x2 x3
noncomputable def sX10_valueAt (S : MS) : (Nat × Int32 × Int32 × Int32) → Option ((Nat × Int32 × Int32 × Int32) ⊕ Int32) := (fun t => bX10_valueAt_5 S t.1 t.2.1 t.2.2.1 t.2.2.2)
noncomputable def hX10_valueAt_5 (S : MS) (x0 : Nat) (x1 : Int32) (x2 : Int32) (x3 : Int32) : Option Int32 := lim (sX10_valueAt S) (x0, x1, x2, x3)
theorem qX10_valueAt_5 (S : MS) (x0 : Nat) (x1 : Int32) (x2 : Int32) (x3 : Int32) : hX10_valueAt_5 S x0 x1 x2 x3 = fin (sX10_valueAt S) (bX10_valueAt_5 S x0 x1 x2 x3) := lim_eq _ _
noncomputable def fX10_valueAt (S : MS) (a0 : Nat) (a1 : Int32) : Option Int32 := fin (sX10_valueAt S) (bX10_valueAt_0 S a0 a1)
noncomputable def bX10_layChart_0 (S : MS) (x0 : Nat) : Option (((Nat × Int32 × MS) ⊕ ((Nat × Int32 × MS) ⊕ (Nat × Int32 × MS))) ⊕ MS) :=
  (o_gI S x0 11 18).bind fun v1 =>
  if v1 = 0 then
    (o_sI S x0 11 18 (1 : Int32)).bind fun S10 =>
    (o_sI S10 x0 11 19 (0 : Int32)).bind fun S15 =>
    some (.inl (.inl (x0, (0 : Int32), S15)))
  else
    some (.inr S)
noncomputable def bX10_layChart_107 (S : MS) (x0 : Nat) (x1 : Int32) (z0 : Nat) (z1 : Int32) (z2 : Int32) : Option (((Nat × Int32 × MS) ⊕ ((Nat × Int32 × MS) ⊕ (Nat × Int32 × MS))) ⊕ MS) :=
  (o_sI S z0 11 19 (z1 + z2)).bind fun S108 =>
  (some (x1 + 1)).bind fun v111 =>
  some (.inl (.inl (x0, v111, S108)))
noncomputable def bX10_layChart_87 (S : MS) (x0 : Nat) (x1 : Int32) (z0 : Nat) (z1 : Int32) (z2 : Int32) : Option (((Nat × Int32 × MS) ⊕ ((Nat × Int32 × MS) ⊕ (Nat × Int32 × MS))) ⊕ MS) :=
  (o_st S z0 12 z1 z2).bind fun S87 =>
  (o_gI S87 x0 11 19).bind fun v90 =>
  (o_gP S87 x0 11 20).bind fun v94 =>
  (o_ld S87 v94 12 x1).bind fun v98 =>
  if v98 < 0 then
    bX10_layChart_107 S87 x0 x1 x0 v90 (0 : Int32)
  else
    bX10_layChart_107 S87 x0 x1 x0 v90 (1 : Int32)
noncomputable def bX10_layChart_85 (S : MS) (x0 : Nat) (x1 : Int32) (z0 : Nat) (z1 : Int32) : Option (((Nat × Int32 × MS) ⊕ ((Nat × Int32 × MS) ⊕ (Nat × Int32 × MS))) ⊕ MS) :=
  bX10_layChart_87 S x0 x1 z0 z1 (-9 : Int32)
noncomputable def bX10_layChart_62 (S : MS) (x0 : Nat) (x1 : Int32) (z0 : Int32) : Option (((Nat × Int32 × MS) ⊕ ((Nat × Int32 × MS) ⊕ (Nat × Int32 × MS))) ⊕ MS) :=
  (o_gP S x0 11 20).bind fun v64 =>
  if z0 < 0 then
    bX10_layChart_85 S x0 x1 v64 x1
  else
    (o_gP S x0 11 13).bind fun v73 =>
    (o_ld S v73 12 z0).bind fun v77 =>
    if v77 ≤ 0 then
      bX10_layChart_85 S x0 x1 v64 x1
    else
      bX10_layChart_87 S x0 x1 v64 x1 z0
noncomputable def bX10_layChart_20 (S : MS) (x0 : Nat) (x1 : Int32) : Option (((Nat × Int32 × MS) ⊕ ((Nat × Int32 × MS) ⊕ (Nat × Int32 × MS))) ⊕ MS) :=
  (o_gI S x0 11 1).bind fun v22 =>
  if v22 ≤ x1 then
    some (.inl (.inr (.inl (x0, (0 : Int32), S))))
  else
    (o_gP S x0 11 21).bind fun v29 =>
    (o_gI S x0 11 15).bind fun v36 =>
    (o_is S x0 11).bind fun _ =>
    (fX10_placeOf S x0 x1 v36).bind fun v39 =>
    (o_st S v29 12 x1 v39).bind fun S42 =>
    (o_gP S42 x0 11 21).bind fun v44 =>
    (o_ld S42 v44 12 x1).bind fun v48 =>
    if 0 ≤ v48 then
      (o_is S42 x0 11).bind fun _ =>
      (fX10_lastWire S42 x0 x1).bind fun v59 =>
      bX10_layChart_62 S42 x0 x1 v59
    else
      bX10_layChart_62 S42 x0 x1 (-9 : Int32)
noncomputable def bX10_layChart_161 (S : MS) (x0 : Nat) (x1 : Int32) (z0 : Nat) (z1 : Int32) (z2 : Int32) : Option (((Nat × Int32 × MS) ⊕ ((Nat × Int32 × MS) ⊕ (Nat × Int32 × MS))) ⊕ MS) :=
  (o_st S z0 12 z1 z2).bind fun S161 =>
  (some (x1 + 1)).bind fun v162 =>
  some (.inl (.inr (.inl (x0, v162, S161))))
noncomputable def bX10_layChart_119 (S : MS) (x0 : Nat) (x1 : Int32) : Option (((Nat × Int32 × MS) ⊕ ((Nat × Int32 × MS) ⊕ (Nat × Int32 × MS))) ⊕ MS) :=
  (o_gI S x0 11 1).bind fun v121 =>
  if v121 ≤ x1 then
    (o_is S x0 11).bind fun _ =>
    (fX10_findDoubted S x0).bind fun S169 =>
    some (.inl (.inr (.inr (x0, (0 : Int32), S169))))
  else
    (o_gP S x0 11 22).bind fun v128 =>
    (o_gP S x0 11 20).bind fun v133 =>
    (o_ld S v133 12 x1).bind fun v137 =>
    if 0 ≤ v137 then
      (o_gP S x0 11 20).bind fun v150 =>
      (o_ld S v150 12 x1).bind fun v154 =>
      (o_is S x0 11).bind fun _ =>
      (fX10_mendedOf S x0 v154).bind fun v155 =>
      (o_is S x0 11).bind fun _ =>
      (fX10_levelBy S x0 x1 v155).bind fun v158 =>
      bX10_layChart_161 S x0 x1 v128 x1 v158
    else
      bX10_layChart_161 S x0 x1 v128 x1 (-9 : Int32)
noncomputable def bX10_layChart_174 (S : MS) (x0 : Nat) (x1 : Int32) : Option (((Nat × Int32 × MS) ⊕ ((Nat × Int32 × MS) ⊕ (Nat × Int32 × MS))) ⊕ MS) :=
  if (144 : Int32) ≤ x1 then
    some (.inr S)
  else
    (o_gP S x0 11 24).bind fun v182 =>
    (o_is S x0 11).bind fun _ =>
    (fX10_valueAt S x0 x1).bind fun v188 =>
    (o_st S v182 12 x1 v188).bind fun S191 =>
    (some (x1 + 1)).bind fun v192 =>
    some (.inl (.inr (.inr (x0, v192, S191))))
noncomputable def sX10_layChart : ((Nat × Int32 × MS) ⊕ ((Nat × Int32 × MS) ⊕ (Nat × Int32 × MS))) → Option (((Nat × Int32 × MS) ⊕ ((Nat × Int32 × MS) ⊕ (Nat × Int32 × MS))) ⊕ MS) := (Sum.elim (fun t => bX10_layChart_20 t.2.2 t.1 t.2.1) (Sum.elim (fun t => bX10_layChart_119 t.2.2 t.1 t.2.1) (fun t => bX10_layChart_174 t.2.2 t.1 t.2.1)))
noncomputable def hX10_layChart_20 (S : MS) (x0 : Nat) (x1 : Int32) : Option MS := lim (sX10_layChart) (.inl (x0, x1, S))
theorem qX10_layChart_20 (S : MS) (x0 : Nat) (x1 : Int32) : hX10_layChart_20 S x0 x1 = fin (sX10_layChart) (bX10_layChart_20 S x0 x1) := lim_eq _ _
noncomputable def hX10_layChart_119 (S : MS) (x0 : Nat) (x1 : Int32) : Option MS := lim (sX10_layChart) (.inr (.inl (x0, x1, S)))
theorem qX10_layChart_119 (S : MS) (x0 : Nat) (x1 : Int32) : hX10_layChart_119 S x0 x1 = fin (sX10_layChart) (bX10_layChart_119 S x0 x1) := lim_eq _ _
noncomputable def hX10_layChart_174 (S : MS) (x0 : Nat) (x1 : Int32) : Option MS := lim (sX10_layChart) (.inr (.inr (x0, x1, S)))
theorem qX10_layChart_174 (S : MS) (x0 : Nat) (x1 : Int32) : hX10_layChart_174 S x0 x1 = fin (sX10_layChart) (bX10_layChart_174 S x0 x1) := lim_eq _ _
noncomputable def fX10_layChart (S : MS) (a0 : Nat) : Option MS := fin (sX10_layChart) (bX10_layChart_0 S a0)
noncomputable def bX10_noPost_21 (S : MS) (z0 : Int32) : Option Int32 :=
  (o_zb z0).bind fun z21 =>
  some z21
noncomputable def bX10_noPost_0 (S : MS) (x0 : Nat) (x1 : Int32) : Option Int32 :=
  (o_gI S x0 11 1).bind fun v4 =>
  (fX10_in (x1.toInt64) (0 : Int64) ((v4.toInt64) - (1 : Int64))).bind fun v10 =>
  if v10 = 0 then
    bX10_noPost_21 S (1 : Int32)
  else
    bX10_noPost_21 S (0 : Int32)
noncomputable def fX10_noPost (S : MS) (a0 : Nat) (a1 : Int32) : Option Int32 := bX10_noPost_0 S a0 a1
noncomputable def bX10_about_150 (S : MS) (z0 : Int32) : Option ((Nat × Int32 × Int32 × Int32 × MS) ⊕ (Int32 × MS)) :=
  some (.inr (z0, S))
noncomputable def bX10_about_0 (S : MS) (x0 : Nat) (x1 : Int32) (x2 : Int32) : Option ((Nat × Int32 × Int32 × Int32 × MS) ⊕ (Int32 × MS)) :=
  (o_is S x0 11).bind fun _ =>
  (fX10_noPost S x0 x1).bind fun v2 =>
  if v2 = 0 then
    (o_is S x0 11).bind fun _ =>
    (fX10_layChart S x0).bind fun S11 =>
    if x2 = (0 : Int32) then
      (o_gP S11 x0 11 2).bind fun v61 =>
      (o_ld S11 v61 12 x1).bind fun v65 =>
      some (.inr (v65, S11))
    else
    if x2 = (1 : Int32) then
      (o_gP S11 x0 11 3).bind fun v68 =>
      (o_ld S11 v68 12 x1).bind fun v72 =>
      some (.inr (v72, S11))
    else
    if x2 = (2 : Int32) then
      (o_gP S11 x0 11 4).bind fun v75 =>
      (o_ld S11 v75 12 x1).bind fun v79 =>
      some (.inr (v79, S11))
    else
    if x2 = (3 : Int32) then
      (o_gP S11 x0 11 5).bind fun v82 =>
      (o_ld S11 v82 12 x1).bind fun v86 =>
      some (.inr (v86, S11))
    else
    if x2 = (4 : Int32) then
      some (.inl (x0, x1, (0 : Int32), (0 : Int32), S11))
    else
    if x2 = (5 : Int32) then
      (o_gP S11 x0 11 20).bind fun v128 =>
      (o_ld S11 v128 12 x1).bind fun v132 =>
      some (.inr (v132, S11))
    else
    if x2 = (6 : Int32) then
      (o_gI S11 x0 11 23).bind fun v135 =>
      (fX10_hasBit v135 x1).bind fun v139 =>
      if v139 = 0 then
        bX10_about_150 S11 (0 : Int32)
      else
        bX10_about_150 S11 (1 : Int32)
    else
    some (.inr ((-2 : Int32), S11))
  else
    some (.inr ((-1 : Int32), S))
noncomputable def bX10_about_117 (S : MS) (x0 : Nat) (x1 : Int32) (x4 : Int32) (z0 : Int32) (z1 : Int32) : Option ((Nat × Int32 × Int32 × Int32 × MS) ⊕ (Int32 × MS)) :=
  (some ((z0 + z1))).bind fun v118 =>
  (some (x4 + 1)).bind fun v119 =>
  some (.inl (x0, x1, v118, v119, S))
noncomputable def bX10_about_91 (S : MS) (x0 : Nat) (x1 : Int32) (x3 : Int32) (x4 : Int32) : Option ((Nat × Int32 × Int32 × Int32 × MS) ⊕ (Int32 × MS)) :=
  (o_gI S x0 11 8).bind fun v94 =>
  if v94 ≤ x4 then
    some (.inr (x3, S))
  else
    (o_gP S x0 11 9).bind fun v102 =>
    (o_ld S v102 12 x4).bind fun v107 =>
    if v107 = x1 then
      bX10_about_117 S x0 x1 x4 x3 (1 : Int32)
    else
      bX10_about_117 S x0 x1 x4 x3 (0 : Int32)
noncomputable def sX10_about : (Nat × Int32 × Int32 × Int32 × MS) → Option ((Nat × Int32 × Int32 × Int32 × MS) ⊕ (Int32 × MS)) := (fun t => bX10_about_91 t.2.2.2.2 t.1 t.2.1 t.2.2.1 t.2.2.2.1)
noncomputable def hX10_about_91 (S : MS) (x0 : Nat) (x1 : Int32) (x3 : Int32) (x4 : Int32) : Option (Int32 × MS) := lim (sX10_about) (x0, x1, x3, x4, S)
theorem qX10_about_91 (S : MS) (x0 : Nat) (x1 : Int32) (x3 : Int32) (x4 : Int32) : hX10_about_91 S x0 x1 x3 x4 = fin (sX10_about) (bX10_about_91 S x0 x1 x3 x4) := lim_eq _ _
noncomputable def fX10_about (S : MS) (a0 : Nat) (a1 : Int32) (a2 : Int32) : Option (Int32 × MS) := fin (sX10_about) (bX10_about_0 S a0 a1 a2)
set_option maxHeartbeats 4000000 in
set_option maxRecDepth 100000 in
theorem wX10_init_0 {p : Program} {l : Launch} {e : Env} {s : State} {m : MethodId} {args : Array Value} {below : List Frame} {meth : Method} {c : Code} {D : va_G} {cy : Nat → ClassId} (ad : Nat → Nat) (A : Nat → Prop) {S : MS} {S' : MS} {H : Heap} {locs : List Loc} {K0 : Nat} {out : ((Nat × Int32 × MS) ⊕ MS)} {ls : Array Slot} {x0 : Nat} (C0 : CX p s m args meth c RX10 cX10_init 2 D cy) (hA : ∀ k, 0 < k → A (ad k)) (hs : ∀ k, K0 ≤ k → ad (k + 1) + 1 = ad (k + 2)) (hE : EX ad A s) (M : ST D cy ad A s.heap (ZA ad K0) S H locs) (hr : meth.sig.returnType = none) (hin : meth.name = "<init>") (hF : bX10_init_0 S x0 = some out) (hl : lv_has ls 2 [(0, .ref (ad x0))]) (Kr : ∀ r9, out = .inr r9 → r9 = S') (Kh0 : ∀ (y0 : Nat) (y1 : Int32) (S2 : MS), out = .inl (y0, y1, S2) → ∀ (H1 : Heap) (locs1 : List Loc) (ls1 : Array Slot), ST D cy ad A s.heap (ZA ad K0) S2 H1 locs1 → lv_has ls1 2 [(0, .ref (ad y0)), (1, .int y1)] → W p l e rmX10_init s m args below meth c H1 locs1 42 3097 (MQ below (QcA D cy ad A K0 S' (none)) args s 42 3097 A) (F0 m 356 ls1 [])) : W p l e rmX10_init s m args below meth c H locs 0 0 (MQ below (QcA D cy ad A K0 S' (none)) args s 42 3097 A) (F0 m 0 ls []) := by
  unfold bX10_init_0 at hF
  obtain ⟨hx, hb, -, hown, -, hts, -⟩ := id C0
  refine lv_aload_n hx hb dX10_init_0 rfl (lv_at hl 0 rfl) ?_
  refine W.objInit hx hb hown (hts _ (uw_of 1070 (by decide +kernel) rfl)) (hts _ (uw_of 111 (by decide +kernel) rfl)) (hts _ (uw_of 112 (by decide +kernel) rfl)) rfl (by rw [C0.2.2.1]; exact hl.1) rfl dX10_init_1 (Nat.le_of_ble_eq_true rfl) (Nat.le_of_ble_eq_true rfl) ?_
  refine W.eq (g2 := F0 m 4 ls []) rfl ?_
  refine lv_aload_n hx hb dX10_init_4 rfl (lv_at hl 0 rfl) ?_
  refine lv_bipush (v := (12 : Int32)) hx hb dX10_init_5 (by decide) ?_
  obtain ⟨n7, hn, hF⟩ := ob hF
  obtain ⟨o7, ho, hF⟩ := ob hF
  obtain ⟨S7, hv, hF⟩ := ob hF
  have ho := vtI ho
  have hv := vtI hv
  refine k_newI (atype := .int) (ty := .int) (kd := 12) 0 C0 M hA hs rfl (uw_of 185 (by decide +kernel) rfl) rfl (by decide) rfl rfl hn (Nat.le_of_ble_eq_true rfl) (Nat.le_of_ble_eq_true rfl) (Nat.le_of_ble_eq_true rfl) dX10_init_7 (fun H M => ?_)
  rw [hv] at M
  rw [ho]
  refine W.widen (k := 1) (n := 12) (Nat.le_of_ble_eq_true rfl) (Nat.le_of_ble_eq_true rfl) ?_
  obtain ⟨S9, hv, hF⟩ := ob hF
  refine k_sPF C0 M hin rfl hv fl_X10_7 dX10_init_9 (fun H locs M => ?_)
  refine lv_aload_n hx hb dX10_init_12 rfl (lv_at hl 0 rfl) ?_
  refine lv_bipush (v := (12 : Int32)) hx hb dX10_init_13 (by decide) ?_
  obtain ⟨n15, hn, hF⟩ := ob hF
  obtain ⟨o15, ho, hF⟩ := ob hF
  obtain ⟨S15, hv, hF⟩ := ob hF
  have ho := vtI ho
  have hv := vtI hv
  refine k_newI (atype := .int) (ty := .int) (kd := 12) 0 C0 M hA hs rfl (uw_of 185 (by decide +kernel) rfl) rfl (by decide) rfl rfl hn (Nat.le_of_ble_eq_true rfl) (Nat.le_of_ble_eq_true rfl) (Nat.le_of_ble_eq_true rfl) dX10_init_15 (fun H M => ?_)
  rw [hv] at M
  rw [ho]
  refine W.widen (k := 2) (n := 24) (Nat.le_of_ble_eq_true rfl) (Nat.le_of_ble_eq_true rfl) ?_
  obtain ⟨S17, hv, hF⟩ := ob hF
  refine k_sPF C0 M hin rfl hv fl_X10_13 dX10_init_17 (fun H locs M => ?_)
  refine lv_aload_n hx hb dX10_init_20 rfl (lv_at hl 0 rfl) ?_
  refine lv_bipush (v := (12 : Int32)) hx hb dX10_init_21 (by decide) ?_
  obtain ⟨n23, hn, hF⟩ := ob hF
  obtain ⟨o23, ho, hF⟩ := ob hF
  obtain ⟨S23, hv, hF⟩ := ob hF
  have ho := vtI ho
  have hv := vtI hv
  refine k_newI (atype := .int) (ty := .int) (kd := 12) 0 C0 M hA hs rfl (uw_of 185 (by decide +kernel) rfl) rfl (by decide) rfl rfl hn (Nat.le_of_ble_eq_true rfl) (Nat.le_of_ble_eq_true rfl) (Nat.le_of_ble_eq_true rfl) dX10_init_23 (fun H M => ?_)
  rw [hv] at M
  rw [ho]
  refine W.widen (k := 3) (n := 36) (Nat.le_of_ble_eq_true rfl) (Nat.le_of_ble_eq_true rfl) ?_
  obtain ⟨S25, hv, hF⟩ := ob hF
  refine k_sPF C0 M hin rfl hv fl_X10_16 dX10_init_25 (fun H locs M => ?_)
  refine lv_aload_n hx hb dX10_init_28 rfl (lv_at hl 0 rfl) ?_
  refine lv_bipush (v := (12 : Int32)) hx hb dX10_init_29 (by decide) ?_
  obtain ⟨n31, hn, hF⟩ := ob hF
  obtain ⟨o31, ho, hF⟩ := ob hF
  obtain ⟨S31, hv, hF⟩ := ob hF
  have ho := vtI ho
  have hv := vtI hv
  refine k_newI (atype := .int) (ty := .int) (kd := 12) 0 C0 M hA hs rfl (uw_of 185 (by decide +kernel) rfl) rfl (by decide) rfl rfl hn (Nat.le_of_ble_eq_true rfl) (Nat.le_of_ble_eq_true rfl) (Nat.le_of_ble_eq_true rfl) dX10_init_31 (fun H M => ?_)
  rw [hv] at M
  rw [ho]
  refine W.widen (k := 4) (n := 48) (Nat.le_of_ble_eq_true rfl) (Nat.le_of_ble_eq_true rfl) ?_
  obtain ⟨S33, hv, hF⟩ := ob hF
  refine k_sPF C0 M hin rfl hv fl_X10_19 dX10_init_33 (fun H locs M => ?_)
  refine lv_aload_n hx hb dX10_init_36 rfl (lv_at hl 0 rfl) ?_
  refine lv_bipush (v := (12 : Int32)) hx hb dX10_init_37 (by decide) ?_
  obtain ⟨n39, hn, hF⟩ := ob hF
  obtain ⟨o39, ho, hF⟩ := ob hF
  obtain ⟨S39, hv, hF⟩ := ob hF
  have ho := vtI ho
  have hv := vtI hv
  refine k_newI (atype := .int) (ty := .int) (kd := 12) 0 C0 M hA hs rfl (uw_of 185 (by decide +kernel) rfl) rfl (by decide) rfl rfl hn (Nat.le_of_ble_eq_true rfl) (Nat.le_of_ble_eq_true rfl) (Nat.le_of_ble_eq_true rfl) dX10_init_39 (fun H M => ?_)
  rw [hv] at M
  rw [ho]
  refine W.widen (k := 5) (n := 60) (Nat.le_of_ble_eq_true rfl) (Nat.le_of_ble_eq_true rfl) ?_
  obtain ⟨S41, hv, hF⟩ := ob hF
  refine k_sPF C0 M hin rfl hv fl_X10_22 dX10_init_41 (fun H locs M => ?_)
  refine lv_aload_n hx hb dX10_init_44 rfl (lv_at hl 0 rfl) ?_
  refine lv_bipush (v := (12 : Int32)) hx hb dX10_init_45 (by decide) ?_
  obtain ⟨n47, hn, hF⟩ := ob hF
  obtain ⟨o47, ho, hF⟩ := ob hF
  obtain ⟨S47, hv, hF⟩ := ob hF
  have ho := vtI ho
  have hv := vtI hv
  refine k_newI (atype := .int) (ty := .int) (kd := 12) 0 C0 M hA hs rfl (uw_of 185 (by decide +kernel) rfl) rfl (by decide) rfl rfl hn (Nat.le_of_ble_eq_true rfl) (Nat.le_of_ble_eq_true rfl) (Nat.le_of_ble_eq_true rfl) dX10_init_47 (fun H M => ?_)
  rw [hv] at M
  rw [ho]
  refine W.widen (k := 6) (n := 72) (Nat.le_of_ble_eq_true rfl) (Nat.le_of_ble_eq_true rfl) ?_
  obtain ⟨S49, hv, hF⟩ := ob hF
  refine k_sPF C0 M hin rfl hv fl_X10_25 dX10_init_49 (fun H locs M => ?_)
  refine lv_aload_n hx hb dX10_init_52 rfl (lv_at hl 0 rfl) ?_
  refine lv_bipush (v := (30 : Int32)) hx hb dX10_init_53 (by decide) ?_
  obtain ⟨n55, hn, hF⟩ := ob hF
  obtain ⟨o55, ho, hF⟩ := ob hF
  obtain ⟨S55, hv, hF⟩ := ob hF
  have ho := vtI ho
  have hv := vtI hv
  refine k_newI (atype := .int) (ty := .int) (kd := 12) 0 C0 M hA hs rfl (uw_of 185 (by decide +kernel) rfl) rfl (by decide) rfl rfl hn (Nat.le_of_ble_eq_true rfl) (Nat.le_of_ble_eq_true rfl) (Nat.le_of_ble_eq_true rfl) dX10_init_55 (fun H M => ?_)
  rw [hv] at M
  rw [ho]
  refine W.widen (k := 7) (n := 102) (Nat.le_of_ble_eq_true rfl) (Nat.le_of_ble_eq_true rfl) ?_
  obtain ⟨S57, hv, hF⟩ := ob hF
  refine k_sPF C0 M hin rfl hv fl_X10_28 dX10_init_57 (fun H locs M => ?_)
  refine lv_aload_n hx hb dX10_init_60 rfl (lv_at hl 0 rfl) ?_
  refine lv_bipush (v := (30 : Int32)) hx hb dX10_init_61 (by decide) ?_
  obtain ⟨n63, hn, hF⟩ := ob hF
  obtain ⟨o63, ho, hF⟩ := ob hF
  obtain ⟨S63, hv, hF⟩ := ob hF
  have ho := vtI ho
  have hv := vtI hv
  refine k_newI (atype := .int) (ty := .int) (kd := 12) 0 C0 M hA hs rfl (uw_of 185 (by decide +kernel) rfl) rfl (by decide) rfl rfl hn (Nat.le_of_ble_eq_true rfl) (Nat.le_of_ble_eq_true rfl) (Nat.le_of_ble_eq_true rfl) dX10_init_63 (fun H M => ?_)
  rw [hv] at M
  rw [ho]
  refine W.widen (k := 8) (n := 132) (Nat.le_of_ble_eq_true rfl) (Nat.le_of_ble_eq_true rfl) ?_
  obtain ⟨S65, hv, hF⟩ := ob hF
  refine k_sPF C0 M hin rfl hv fl_X10_31 dX10_init_65 (fun H locs M => ?_)
  refine lv_aload_n hx hb dX10_init_68 rfl (lv_at hl 0 rfl) ?_
  refine lv_bipush (v := (30 : Int32)) hx hb dX10_init_69 (by decide) ?_
  obtain ⟨n71, hn, hF⟩ := ob hF
  obtain ⟨o71, ho, hF⟩ := ob hF
  obtain ⟨S71, hv, hF⟩ := ob hF
  have ho := vtI ho
  have hv := vtI hv
  refine k_newI (atype := .int) (ty := .int) (kd := 12) 0 C0 M hA hs rfl (uw_of 185 (by decide +kernel) rfl) rfl (by decide) rfl rfl hn (Nat.le_of_ble_eq_true rfl) (Nat.le_of_ble_eq_true rfl) (Nat.le_of_ble_eq_true rfl) dX10_init_71 (fun H M => ?_)
  rw [hv] at M
  rw [ho]
  refine W.widen (k := 9) (n := 162) (Nat.le_of_ble_eq_true rfl) (Nat.le_of_ble_eq_true rfl) ?_
  obtain ⟨S73, hv, hF⟩ := ob hF
  refine k_sPF C0 M hin rfl hv fl_X10_34 dX10_init_73 (fun H locs M => ?_)
  refine lv_aload_n hx hb dX10_init_76 rfl (lv_at hl 0 rfl) ?_
  refine lv_sipush (v := (450 : Int32)) hx hb dX10_init_77 (by decide) ?_
  obtain ⟨n80, hn, hF⟩ := ob hF
  obtain ⟨o80, ho, hF⟩ := ob hF
  obtain ⟨S80, hv, hF⟩ := ob hF
  have ho := vtI ho
  have hv := vtI hv
  refine k_newI (atype := .int) (ty := .int) (kd := 12) 0 C0 M hA hs rfl (uw_of 185 (by decide +kernel) rfl) rfl (by decide) rfl rfl hn (Nat.le_of_ble_eq_true rfl) (Nat.le_of_ble_eq_true rfl) (Nat.le_of_ble_eq_true rfl) dX10_init_80 (fun H M => ?_)
  rw [hv] at M
  rw [ho]
  refine W.widen (k := 10) (n := 612) (Nat.le_of_ble_eq_true rfl) (Nat.le_of_ble_eq_true rfl) ?_
  obtain ⟨S82, hv, hF⟩ := ob hF
  refine k_sPF C0 M hin rfl hv fl_X10_37 dX10_init_82 (fun H locs M => ?_)
  refine lv_aload_n hx hb dX10_init_85 rfl (lv_at hl 0 rfl) ?_
  refine lv_bipush (v := (30 : Int32)) hx hb dX10_init_86 (by decide) ?_
  obtain ⟨n88, hn, hF⟩ := ob hF
  obtain ⟨o88, ho, hF⟩ := ob hF
  obtain ⟨S88, hv, hF⟩ := ob hF
  have ho := vtI ho
  have hv := vtI hv
  refine k_newI (atype := .int) (ty := .int) (kd := 12) 0 C0 M hA hs rfl (uw_of 185 (by decide +kernel) rfl) rfl (by decide) rfl rfl hn (Nat.le_of_ble_eq_true rfl) (Nat.le_of_ble_eq_true rfl) (Nat.le_of_ble_eq_true rfl) dX10_init_88 (fun H M => ?_)
  rw [hv] at M
  rw [ho]
  refine W.widen (k := 11) (n := 642) (Nat.le_of_ble_eq_true rfl) (Nat.le_of_ble_eq_true rfl) ?_
  obtain ⟨S90, hv, hF⟩ := ob hF
  refine k_sPF C0 M hin rfl hv fl_X10_40 dX10_init_90 (fun H locs M => ?_)
  refine lv_aload_n hx hb dX10_init_93 rfl (lv_at hl 0 rfl) ?_
  refine lv_bipush (v := (30 : Int32)) hx hb dX10_init_94 (by decide) ?_
  obtain ⟨n96, hn, hF⟩ := ob hF
  obtain ⟨o96, ho, hF⟩ := ob hF
  obtain ⟨S96, hv, hF⟩ := ob hF
  have ho := vtI ho
  have hv := vtI hv
  refine k_newI (atype := .int) (ty := .int) (kd := 12) 0 C0 M hA hs rfl (uw_of 185 (by decide +kernel) rfl) rfl (by decide) rfl rfl hn (Nat.le_of_ble_eq_true rfl) (Nat.le_of_ble_eq_true rfl) (Nat.le_of_ble_eq_true rfl) dX10_init_96 (fun H M => ?_)
  rw [hv] at M
  rw [ho]
  refine W.widen (k := 12) (n := 672) (Nat.le_of_ble_eq_true rfl) (Nat.le_of_ble_eq_true rfl) ?_
  obtain ⟨S98, hv, hF⟩ := ob hF
  refine k_sPF C0 M hin rfl hv fl_X10_43 dX10_init_98 (fun H locs M => ?_)
  refine lv_aload_n hx hb dX10_init_101 rfl (lv_at hl 0 rfl) ?_
  refine lv_bipush (v := (12 : Int32)) hx hb dX10_init_102 (by decide) ?_
  obtain ⟨n104, hn, hF⟩ := ob hF
  obtain ⟨o104, ho, hF⟩ := ob hF
  obtain ⟨S104, hv, hF⟩ := ob hF
  have ho := vtI ho
  have hv := vtI hv
  refine k_newI (atype := .int) (ty := .int) (kd := 12) 0 C0 M hA hs rfl (uw_of 185 (by decide +kernel) rfl) rfl (by decide) rfl rfl hn (Nat.le_of_ble_eq_true rfl) (Nat.le_of_ble_eq_true rfl) (Nat.le_of_ble_eq_true rfl) dX10_init_104 (fun H M => ?_)
  rw [hv] at M
  rw [ho]
  refine W.widen (k := 13) (n := 684) (Nat.le_of_ble_eq_true rfl) (Nat.le_of_ble_eq_true rfl) ?_
  obtain ⟨S106, hv, hF⟩ := ob hF
  refine k_sPF C0 M hin rfl hv fl_X10_46 dX10_init_106 (fun H locs M => ?_)
  refine lv_aload_n hx hb dX10_init_109 rfl (lv_at hl 0 rfl) ?_
  refine lv_bipush (v := (12 : Int32)) hx hb dX10_init_110 (by decide) ?_
  obtain ⟨n112, hn, hF⟩ := ob hF
  obtain ⟨o112, ho, hF⟩ := ob hF
  obtain ⟨S112, hv, hF⟩ := ob hF
  have ho := vtI ho
  have hv := vtI hv
  refine k_newI (atype := .int) (ty := .int) (kd := 12) 0 C0 M hA hs rfl (uw_of 185 (by decide +kernel) rfl) rfl (by decide) rfl rfl hn (Nat.le_of_ble_eq_true rfl) (Nat.le_of_ble_eq_true rfl) (Nat.le_of_ble_eq_true rfl) dX10_init_112 (fun H M => ?_)
  rw [hv] at M
  rw [ho]
  refine W.widen (k := 14) (n := 696) (Nat.le_of_ble_eq_true rfl) (Nat.le_of_ble_eq_true rfl) ?_
  obtain ⟨S114, hv, hF⟩ := ob hF
  refine k_sPF C0 M hin rfl hv fl_X10_49 dX10_init_114 (fun H locs M => ?_)
  refine lv_aload_n hx hb dX10_init_117 rfl (lv_at hl 0 rfl) ?_
  refine lv_bipush (v := (12 : Int32)) hx hb dX10_init_118 (by decide) ?_
  obtain ⟨n120, hn, hF⟩ := ob hF
  obtain ⟨o120, ho, hF⟩ := ob hF
  obtain ⟨S120, hv, hF⟩ := ob hF
  have ho := vtI ho
  have hv := vtI hv
  refine k_newI (atype := .int) (ty := .int) (kd := 12) 0 C0 M hA hs rfl (uw_of 185 (by decide +kernel) rfl) rfl (by decide) rfl rfl hn (Nat.le_of_ble_eq_true rfl) (Nat.le_of_ble_eq_true rfl) (Nat.le_of_ble_eq_true rfl) dX10_init_120 (fun H M => ?_)
  rw [hv] at M
  rw [ho]
  refine W.widen (k := 15) (n := 708) (Nat.le_of_ble_eq_true rfl) (Nat.le_of_ble_eq_true rfl) ?_
  obtain ⟨S122, hv, hF⟩ := ob hF
  refine k_sPF C0 M hin rfl hv fl_X10_52 dX10_init_122 (fun H locs M => ?_)
  refine lv_aload_n hx hb dX10_init_125 rfl (lv_at hl 0 rfl) ?_
  refine lv_sipush (v := (144 : Int32)) hx hb dX10_init_126 (by decide) ?_
  obtain ⟨n129, hn, hF⟩ := ob hF
  obtain ⟨o129, ho, hF⟩ := ob hF
  obtain ⟨S129, hv, hF⟩ := ob hF
  have ho := vtI ho
  have hv := vtI hv
  refine k_newI (atype := .int) (ty := .int) (kd := 12) 0 C0 M hA hs rfl (uw_of 185 (by decide +kernel) rfl) rfl (by decide) rfl rfl hn (Nat.le_of_ble_eq_true rfl) (Nat.le_of_ble_eq_true rfl) (Nat.le_of_ble_eq_true rfl) dX10_init_129 (fun H M => ?_)
  rw [hv] at M
  rw [ho]
  refine W.widen (k := 16) (n := 852) (Nat.le_of_ble_eq_true rfl) (Nat.le_of_ble_eq_true rfl) ?_
  obtain ⟨S131, hv, hF⟩ := ob hF
  refine k_sPF C0 M hin rfl hv fl_X10_55 dX10_init_131 (fun H locs M => ?_)
  refine lv_aload_n hx hb dX10_init_134 rfl (lv_at hl 0 rfl) ?_
  refine lv_bipush (v := (12 : Int32)) hx hb dX10_init_135 (by decide) ?_
  obtain ⟨n137, hn, hF⟩ := ob hF
  obtain ⟨o137, ho, hF⟩ := ob hF
  obtain ⟨S137, hv, hF⟩ := ob hF
  have ho := vtI ho
  have hv := vtI hv
  refine k_newI (atype := .int) (ty := .int) (kd := 12) 0 C0 M hA hs rfl (uw_of 185 (by decide +kernel) rfl) rfl (by decide) rfl rfl hn (Nat.le_of_ble_eq_true rfl) (Nat.le_of_ble_eq_true rfl) (Nat.le_of_ble_eq_true rfl) dX10_init_137 (fun H M => ?_)
  rw [hv] at M
  rw [ho]
  refine W.widen (k := 17) (n := 864) (Nat.le_of_ble_eq_true rfl) (Nat.le_of_ble_eq_true rfl) ?_
  obtain ⟨S139, hv, hF⟩ := ob hF
  refine k_sPF C0 M hin rfl hv fl_X10_58 dX10_init_139 (fun H locs M => ?_)
  refine lv_aload_n hx hb dX10_init_142 rfl (lv_at hl 0 rfl) ?_
  refine lv_sipush (v := (144 : Int32)) hx hb dX10_init_143 (by decide) ?_
  obtain ⟨n146, hn, hF⟩ := ob hF
  obtain ⟨o146, ho, hF⟩ := ob hF
  obtain ⟨S146, hv, hF⟩ := ob hF
  have ho := vtI ho
  have hv := vtI hv
  refine k_newI (atype := .int) (ty := .int) (kd := 12) 0 C0 M hA hs rfl (uw_of 185 (by decide +kernel) rfl) rfl (by decide) rfl rfl hn (Nat.le_of_ble_eq_true rfl) (Nat.le_of_ble_eq_true rfl) (Nat.le_of_ble_eq_true rfl) dX10_init_146 (fun H M => ?_)
  rw [hv] at M
  rw [ho]
  refine W.widen (k := 18) (n := 1008) (Nat.le_of_ble_eq_true rfl) (Nat.le_of_ble_eq_true rfl) ?_
  obtain ⟨S148, hv, hF⟩ := ob hF
  refine k_sPF C0 M hin rfl hv fl_X10_61 dX10_init_148 (fun H locs M => ?_)
  refine lv_aload_n hx hb dX10_init_151 rfl (lv_at hl 0 rfl) ?_
  refine lv_sipush (v := (144 : Int32)) hx hb dX10_init_152 (by decide) ?_
  obtain ⟨n155, hn, hF⟩ := ob hF
  obtain ⟨o155, ho, hF⟩ := ob hF
  obtain ⟨S155, hv, hF⟩ := ob hF
  have ho := vtI ho
  have hv := vtI hv
  refine k_newI (atype := .boolean) (ty := .boolean) (kd := 13) 1 C0 M hA hs rfl (uw_of 230 (by decide +kernel) rfl) rfl (by decide) rfl rfl hn (Nat.le_of_ble_eq_true rfl) (Nat.le_of_ble_eq_true rfl) (Nat.le_of_ble_eq_true rfl) dX10_init_155 (fun H M => ?_)
  rw [hv] at M
  rw [ho]
  refine W.widen (k := 19) (n := 1152) (Nat.le_of_ble_eq_true rfl) (Nat.le_of_ble_eq_true rfl) ?_
  obtain ⟨S157, hv, hF⟩ := ob hF
  refine k_sPF C0 M hin rfl hv fl_X10_64 dX10_init_157 (fun H locs M => ?_)
  refine lv_aload_n hx hb dX10_init_160 rfl (lv_at hl 0 rfl) ?_
  refine lv_iconst (v := (2 : Int32)) hx hb dX10_init_161 (by decide) ?_
  obtain ⟨n162, hn, hF⟩ := ob hF
  obtain ⟨o162, ho, hF⟩ := ob hF
  obtain ⟨S162, hv, hF⟩ := ob hF
  have ho := vtI ho
  have hv := vtI hv
  refine k_newI (atype := .int) (ty := .int) (kd := 12) 0 C0 M hA hs rfl (uw_of 185 (by decide +kernel) rfl) rfl (by decide) rfl rfl hn (Nat.le_of_ble_eq_true rfl) (Nat.le_of_ble_eq_true rfl) (Nat.le_of_ble_eq_true rfl) dX10_init_162 (fun H M => ?_)
  rw [hv] at M
  rw [ho]
  refine W.widen (k := 20) (n := 1154) (Nat.le_of_ble_eq_true rfl) (Nat.le_of_ble_eq_true rfl) ?_
  obtain ⟨S164, hv, hF⟩ := ob hF
  refine k_sPF C0 M hin rfl hv fl_X10_68 dX10_init_164 (fun H locs M => ?_)
  refine lv_aload_n hx hb dX10_init_167 rfl (lv_at hl 0 rfl) ?_
  refine lv_bipush (v := (10 : Int32)) hx hb dX10_init_168 (by decide) ?_
  obtain ⟨n170, hn, hF⟩ := ob hF
  obtain ⟨o170, ho, hF⟩ := ob hF
  obtain ⟨S170, hv, hF⟩ := ob hF
  have ho := vtI ho
  have hv := vtI hv
  refine k_newI (atype := .int) (ty := .int) (kd := 12) 0 C0 M hA hs rfl (uw_of 185 (by decide +kernel) rfl) rfl (by decide) rfl rfl hn (Nat.le_of_ble_eq_true rfl) (Nat.le_of_ble_eq_true rfl) (Nat.le_of_ble_eq_true rfl) dX10_init_170 (fun H M => ?_)
  rw [hv] at M
  rw [ho]
  refine W.widen (k := 21) (n := 1164) (Nat.le_of_ble_eq_true rfl) (Nat.le_of_ble_eq_true rfl) ?_
  obtain ⟨S172, hv, hF⟩ := ob hF
  refine k_sPF C0 M hin rfl hv fl_X10_71 dX10_init_172 (fun H locs M => ?_)
  refine lv_aload_n hx hb dX10_init_175 rfl (lv_at hl 0 rfl) ?_
  refine lv_bipush (v := (10 : Int32)) hx hb dX10_init_176 (by decide) ?_
  obtain ⟨n178, hn, hF⟩ := ob hF
  obtain ⟨o178, ho, hF⟩ := ob hF
  obtain ⟨S178, hv, hF⟩ := ob hF
  have ho := vtI ho
  have hv := vtI hv
  refine k_newI (atype := .int) (ty := .int) (kd := 12) 0 C0 M hA hs rfl (uw_of 185 (by decide +kernel) rfl) rfl (by decide) rfl rfl hn (Nat.le_of_ble_eq_true rfl) (Nat.le_of_ble_eq_true rfl) (Nat.le_of_ble_eq_true rfl) dX10_init_178 (fun H M => ?_)
  rw [hv] at M
  rw [ho]
  refine W.widen (k := 22) (n := 1174) (Nat.le_of_ble_eq_true rfl) (Nat.le_of_ble_eq_true rfl) ?_
  obtain ⟨S180, hv, hF⟩ := ob hF
  refine k_sPF C0 M hin rfl hv fl_X10_74 dX10_init_180 (fun H locs M => ?_)
  refine lv_aload_n hx hb dX10_init_183 rfl (lv_at hl 0 rfl) ?_
  refine lv_bipush (v := (10 : Int32)) hx hb dX10_init_184 (by decide) ?_
  obtain ⟨n186, hn, hF⟩ := ob hF
  obtain ⟨o186, ho, hF⟩ := ob hF
  obtain ⟨S186, hv, hF⟩ := ob hF
  have ho := vtI ho
  have hv := vtI hv
  refine k_newI (atype := .int) (ty := .int) (kd := 12) 0 C0 M hA hs rfl (uw_of 185 (by decide +kernel) rfl) rfl (by decide) rfl rfl hn (Nat.le_of_ble_eq_true rfl) (Nat.le_of_ble_eq_true rfl) (Nat.le_of_ble_eq_true rfl) dX10_init_186 (fun H M => ?_)
  rw [hv] at M
  rw [ho]
  refine W.widen (k := 23) (n := 1184) (Nat.le_of_ble_eq_true rfl) (Nat.le_of_ble_eq_true rfl) ?_
  obtain ⟨S188, hv, hF⟩ := ob hF
  refine k_sPF C0 M hin rfl hv fl_X10_77 dX10_init_188 (fun H locs M => ?_)
  refine lv_aload_n hx hb dX10_init_191 rfl (lv_at hl 0 rfl) ?_
  refine lv_bipush (v := (10 : Int32)) hx hb dX10_init_192 (by decide) ?_
  obtain ⟨n194, hn, hF⟩ := ob hF
  obtain ⟨o194, ho, hF⟩ := ob hF
  obtain ⟨S194, hv, hF⟩ := ob hF
  have ho := vtI ho
  have hv := vtI hv
  refine k_newI (atype := .int) (ty := .int) (kd := 12) 0 C0 M hA hs rfl (uw_of 185 (by decide +kernel) rfl) rfl (by decide) rfl rfl hn (Nat.le_of_ble_eq_true rfl) (Nat.le_of_ble_eq_true rfl) (Nat.le_of_ble_eq_true rfl) dX10_init_194 (fun H M => ?_)
  rw [hv] at M
  rw [ho]
  refine W.widen (k := 24) (n := 1194) (Nat.le_of_ble_eq_true rfl) (Nat.le_of_ble_eq_true rfl) ?_
  obtain ⟨S196, hv, hF⟩ := ob hF
  refine k_sPF C0 M hin rfl hv fl_X10_80 dX10_init_196 (fun H locs M => ?_)
  refine lv_aload_n hx hb dX10_init_199 rfl (lv_at hl 0 rfl) ?_
  refine lv_bipush (v := (120 : Int32)) hx hb dX10_init_200 (by decide) ?_
  obtain ⟨n202, hn, hF⟩ := ob hF
  obtain ⟨o202, ho, hF⟩ := ob hF
  obtain ⟨S202, hv, hF⟩ := ob hF
  have ho := vtI ho
  have hv := vtI hv
  refine k_newI (atype := .int) (ty := .int) (kd := 12) 0 C0 M hA hs rfl (uw_of 185 (by decide +kernel) rfl) rfl (by decide) rfl rfl hn (Nat.le_of_ble_eq_true rfl) (Nat.le_of_ble_eq_true rfl) (Nat.le_of_ble_eq_true rfl) dX10_init_202 (fun H M => ?_)
  rw [hv] at M
  rw [ho]
  refine W.widen (k := 25) (n := 1314) (Nat.le_of_ble_eq_true rfl) (Nat.le_of_ble_eq_true rfl) ?_
  obtain ⟨S204, hv, hF⟩ := ob hF
  refine k_sPF C0 M hin rfl hv fl_X10_83 dX10_init_204 (fun H locs M => ?_)
  refine lv_aload_n hx hb dX10_init_207 rfl (lv_at hl 0 rfl) ?_
  refine lv_bipush (v := (12 : Int32)) hx hb dX10_init_208 (by decide) ?_
  obtain ⟨n210, hn, hF⟩ := ob hF
  obtain ⟨o210, ho, hF⟩ := ob hF
  obtain ⟨S210, hv, hF⟩ := ob hF
  have ho := vtI ho
  have hv := vtI hv
  refine k_newI (atype := .int) (ty := .int) (kd := 12) 0 C0 M hA hs rfl (uw_of 185 (by decide +kernel) rfl) rfl (by decide) rfl rfl hn (Nat.le_of_ble_eq_true rfl) (Nat.le_of_ble_eq_true rfl) (Nat.le_of_ble_eq_true rfl) dX10_init_210 (fun H M => ?_)
  rw [hv] at M
  rw [ho]
  refine W.widen (k := 26) (n := 1326) (Nat.le_of_ble_eq_true rfl) (Nat.le_of_ble_eq_true rfl) ?_
  obtain ⟨S212, hv, hF⟩ := ob hF
  refine k_sPF C0 M hin rfl hv fl_X10_86 dX10_init_212 (fun H locs M => ?_)
  refine lv_aload_n hx hb dX10_init_215 rfl (lv_at hl 0 rfl) ?_
  refine lv_bipush (v := (12 : Int32)) hx hb dX10_init_216 (by decide) ?_
  obtain ⟨n218, hn, hF⟩ := ob hF
  obtain ⟨o218, ho, hF⟩ := ob hF
  obtain ⟨S218, hv, hF⟩ := ob hF
  have ho := vtI ho
  have hv := vtI hv
  refine k_newI (atype := .int) (ty := .int) (kd := 12) 0 C0 M hA hs rfl (uw_of 185 (by decide +kernel) rfl) rfl (by decide) rfl rfl hn (Nat.le_of_ble_eq_true rfl) (Nat.le_of_ble_eq_true rfl) (Nat.le_of_ble_eq_true rfl) dX10_init_218 (fun H M => ?_)
  rw [hv] at M
  rw [ho]
  refine W.widen (k := 27) (n := 1338) (Nat.le_of_ble_eq_true rfl) (Nat.le_of_ble_eq_true rfl) ?_
  obtain ⟨S220, hv, hF⟩ := ob hF
  refine k_sPF C0 M hin rfl hv fl_X10_89 dX10_init_220 (fun H locs M => ?_)
  refine lv_aload_n hx hb dX10_init_223 rfl (lv_at hl 0 rfl) ?_
  refine lv_sipush (v := (720 : Int32)) hx hb dX10_init_224 (by decide) ?_
  obtain ⟨n227, hn, hF⟩ := ob hF
  obtain ⟨o227, ho, hF⟩ := ob hF
  obtain ⟨S227, hv, hF⟩ := ob hF
  have ho := vtI ho
  have hv := vtI hv
  refine k_newI (atype := .int) (ty := .int) (kd := 12) 0 C0 M hA hs rfl (uw_of 185 (by decide +kernel) rfl) rfl (by decide) rfl rfl hn (Nat.le_of_ble_eq_true rfl) (Nat.le_of_ble_eq_true rfl) (Nat.le_of_ble_eq_true rfl) dX10_init_227 (fun H M => ?_)
  rw [hv] at M
  rw [ho]
  refine W.widen (k := 28) (n := 2058) (Nat.le_of_ble_eq_true rfl) (Nat.le_of_ble_eq_true rfl) ?_
  obtain ⟨S229, hv, hF⟩ := ob hF
  refine k_sPF C0 M hin rfl hv fl_X10_92 dX10_init_229 (fun H locs M => ?_)
  refine lv_aload_n hx hb dX10_init_232 rfl (lv_at hl 0 rfl) ?_
  refine lv_iconst (v := (5 : Int32)) hx hb dX10_init_233 (by decide) ?_
  obtain ⟨n234, hn, hF⟩ := ob hF
  obtain ⟨o234, ho, hF⟩ := ob hF
  obtain ⟨S234, hv, hF⟩ := ob hF
  have ho := vtI ho
  have hv := vtI hv
  refine k_newI (atype := .int) (ty := .int) (kd := 12) 0 C0 M hA hs rfl (uw_of 185 (by decide +kernel) rfl) rfl (by decide) rfl rfl hn (Nat.le_of_ble_eq_true rfl) (Nat.le_of_ble_eq_true rfl) (Nat.le_of_ble_eq_true rfl) dX10_init_234 (fun H M => ?_)
  rw [hv] at M
  rw [ho]
  refine W.widen (k := 29) (n := 2063) (Nat.le_of_ble_eq_true rfl) (Nat.le_of_ble_eq_true rfl) ?_
  obtain ⟨S236, hv, hF⟩ := ob hF
  refine k_sPF C0 M hin rfl hv fl_X10_95 dX10_init_236 (fun H locs M => ?_)
  refine lv_aload_n hx hb dX10_init_239 rfl (lv_at hl 0 rfl) ?_
  refine lv_iconst (v := (4 : Int32)) hx hb dX10_init_240 (by decide) ?_
  obtain ⟨n241, hn, hF⟩ := ob hF
  obtain ⟨o241, ho, hF⟩ := ob hF
  obtain ⟨S241, hv, hF⟩ := ob hF
  have ho := vtI ho
  have hv := vtI hv
  refine k_newI (atype := .boolean) (ty := .boolean) (kd := 13) 1 C0 M hA hs rfl (uw_of 230 (by decide +kernel) rfl) rfl (by decide) rfl rfl hn (Nat.le_of_ble_eq_true rfl) (Nat.le_of_ble_eq_true rfl) (Nat.le_of_ble_eq_true rfl) dX10_init_241 (fun H M => ?_)
  rw [hv] at M
  rw [ho]
  refine W.widen (k := 30) (n := 2067) (Nat.le_of_ble_eq_true rfl) (Nat.le_of_ble_eq_true rfl) ?_
  obtain ⟨S243, hv, hF⟩ := ob hF
  refine k_sPF C0 M hin rfl hv fl_X10_98 dX10_init_243 (fun H locs M => ?_)
  refine lv_aload_n hx hb dX10_init_246 rfl (lv_at hl 0 rfl) ?_
  refine lv_sipush (v := (576 : Int32)) hx hb dX10_init_247 (by decide) ?_
  obtain ⟨n250, hn, hF⟩ := ob hF
  obtain ⟨o250, ho, hF⟩ := ob hF
  obtain ⟨S250, hv, hF⟩ := ob hF
  have ho := vtI ho
  have hv := vtI hv
  refine k_newI (atype := .int) (ty := .int) (kd := 12) 0 C0 M hA hs rfl (uw_of 185 (by decide +kernel) rfl) rfl (by decide) rfl rfl hn (Nat.le_of_ble_eq_true rfl) (Nat.le_of_ble_eq_true rfl) (Nat.le_of_ble_eq_true rfl) dX10_init_250 (fun H M => ?_)
  rw [hv] at M
  rw [ho]
  refine W.widen (k := 31) (n := 2643) (Nat.le_of_ble_eq_true rfl) (Nat.le_of_ble_eq_true rfl) ?_
  obtain ⟨S252, hv, hF⟩ := ob hF
  refine k_sPF C0 M hin rfl hv fl_X10_101 dX10_init_252 (fun H locs M => ?_)
  refine lv_aload_n hx hb dX10_init_255 rfl (lv_at hl 0 rfl) ?_
  refine lv_bipush (v := (8 : Int32)) hx hb dX10_init_256 (by decide) ?_
  obtain ⟨n258, hn, hF⟩ := ob hF
  obtain ⟨o258, ho, hF⟩ := ob hF
  obtain ⟨S258, hv, hF⟩ := ob hF
  have ho := vtI ho
  have hv := vtI hv
  refine k_newI (atype := .int) (ty := .int) (kd := 12) 0 C0 M hA hs rfl (uw_of 185 (by decide +kernel) rfl) rfl (by decide) rfl rfl hn (Nat.le_of_ble_eq_true rfl) (Nat.le_of_ble_eq_true rfl) (Nat.le_of_ble_eq_true rfl) dX10_init_258 (fun H M => ?_)
  rw [hv] at M
  rw [ho]
  refine W.widen (k := 32) (n := 2651) (Nat.le_of_ble_eq_true rfl) (Nat.le_of_ble_eq_true rfl) ?_
  obtain ⟨S260, hv, hF⟩ := ob hF
  refine k_sPF C0 M hin rfl hv fl_X10_104 dX10_init_260 (fun H locs M => ?_)
  refine lv_aload_n hx hb dX10_init_263 rfl (lv_at hl 0 rfl) ?_
  refine lv_bipush (v := (40 : Int32)) hx hb dX10_init_264 (by decide) ?_
  obtain ⟨n266, hn, hF⟩ := ob hF
  obtain ⟨o266, ho, hF⟩ := ob hF
  obtain ⟨S266, hv, hF⟩ := ob hF
  have ho := vtI ho
  have hv := vtI hv
  refine k_newI (atype := .int) (ty := .int) (kd := 12) 0 C0 M hA hs rfl (uw_of 185 (by decide +kernel) rfl) rfl (by decide) rfl rfl hn (Nat.le_of_ble_eq_true rfl) (Nat.le_of_ble_eq_true rfl) (Nat.le_of_ble_eq_true rfl) dX10_init_266 (fun H M => ?_)
  rw [hv] at M
  rw [ho]
  refine W.widen (k := 33) (n := 2691) (Nat.le_of_ble_eq_true rfl) (Nat.le_of_ble_eq_true rfl) ?_
  obtain ⟨S268, hv, hF⟩ := ob hF
  refine k_sPF C0 M hin rfl hv fl_X10_107 dX10_init_268 (fun H locs M => ?_)
  refine lv_aload_n hx hb dX10_init_271 rfl (lv_at hl 0 rfl) ?_
  refine lv_bipush (v := (40 : Int32)) hx hb dX10_init_272 (by decide) ?_
  obtain ⟨n274, hn, hF⟩ := ob hF
  obtain ⟨o274, ho, hF⟩ := ob hF
  obtain ⟨S274, hv, hF⟩ := ob hF
  have ho := vtI ho
  have hv := vtI hv
  refine k_newI (atype := .boolean) (ty := .boolean) (kd := 13) 1 C0 M hA hs rfl (uw_of 230 (by decide +kernel) rfl) rfl (by decide) rfl rfl hn (Nat.le_of_ble_eq_true rfl) (Nat.le_of_ble_eq_true rfl) (Nat.le_of_ble_eq_true rfl) dX10_init_274 (fun H M => ?_)
  rw [hv] at M
  rw [ho]
  refine W.widen (k := 34) (n := 2731) (Nat.le_of_ble_eq_true rfl) (Nat.le_of_ble_eq_true rfl) ?_
  obtain ⟨S276, hv, hF⟩ := ob hF
  refine k_sPF C0 M hin rfl hv fl_X10_110 dX10_init_276 (fun H locs M => ?_)
  refine lv_aload_n hx hb dX10_init_279 rfl (lv_at hl 0 rfl) ?_
  refine lv_bipush (v := (40 : Int32)) hx hb dX10_init_280 (by decide) ?_
  obtain ⟨n282, hn, hF⟩ := ob hF
  obtain ⟨o282, ho, hF⟩ := ob hF
  obtain ⟨S282, hv, hF⟩ := ob hF
  have ho := vtI ho
  have hv := vtI hv
  refine k_newI (atype := .int) (ty := .int) (kd := 12) 0 C0 M hA hs rfl (uw_of 185 (by decide +kernel) rfl) rfl (by decide) rfl rfl hn (Nat.le_of_ble_eq_true rfl) (Nat.le_of_ble_eq_true rfl) (Nat.le_of_ble_eq_true rfl) dX10_init_282 (fun H M => ?_)
  rw [hv] at M
  rw [ho]
  refine W.widen (k := 35) (n := 2771) (Nat.le_of_ble_eq_true rfl) (Nat.le_of_ble_eq_true rfl) ?_
  obtain ⟨S284, hv, hF⟩ := ob hF
  refine k_sPF C0 M hin rfl hv fl_X10_113 dX10_init_284 (fun H locs M => ?_)
  refine lv_aload_n hx hb dX10_init_287 rfl (lv_at hl 0 rfl) ?_
  refine lv_bipush (v := (6 : Int32)) hx hb dX10_init_288 (by decide) ?_
  obtain ⟨n290, hn, hF⟩ := ob hF
  obtain ⟨o290, ho, hF⟩ := ob hF
  obtain ⟨S290, hv, hF⟩ := ob hF
  have ho := vtI ho
  have hv := vtI hv
  refine k_newI (atype := .int) (ty := .int) (kd := 12) 0 C0 M hA hs rfl (uw_of 185 (by decide +kernel) rfl) rfl (by decide) rfl rfl hn (Nat.le_of_ble_eq_true rfl) (Nat.le_of_ble_eq_true rfl) (Nat.le_of_ble_eq_true rfl) dX10_init_290 (fun H M => ?_)
  rw [hv] at M
  rw [ho]
  refine W.widen (k := 36) (n := 2777) (Nat.le_of_ble_eq_true rfl) (Nat.le_of_ble_eq_true rfl) ?_
  obtain ⟨S292, hv, hF⟩ := ob hF
  refine k_sPF C0 M hin rfl hv fl_X10_116 dX10_init_292 (fun H locs M => ?_)
  refine lv_aload_n hx hb dX10_init_295 rfl (lv_at hl 0 rfl) ?_
  refine lv_bipush (v := (6 : Int32)) hx hb dX10_init_296 (by decide) ?_
  obtain ⟨n298, hn, hF⟩ := ob hF
  obtain ⟨o298, ho, hF⟩ := ob hF
  obtain ⟨S298, hv, hF⟩ := ob hF
  have ho := vtI ho
  have hv := vtI hv
  refine k_newI (atype := .boolean) (ty := .boolean) (kd := 13) 1 C0 M hA hs rfl (uw_of 230 (by decide +kernel) rfl) rfl (by decide) rfl rfl hn (Nat.le_of_ble_eq_true rfl) (Nat.le_of_ble_eq_true rfl) (Nat.le_of_ble_eq_true rfl) dX10_init_298 (fun H M => ?_)
  rw [hv] at M
  rw [ho]
  refine W.widen (k := 37) (n := 2783) (Nat.le_of_ble_eq_true rfl) (Nat.le_of_ble_eq_true rfl) ?_
  obtain ⟨S300, hv, hF⟩ := ob hF
  refine k_sPF C0 M hin rfl hv fl_X10_119 dX10_init_300 (fun H locs M => ?_)
  refine lv_aload_n hx hb dX10_init_303 rfl (lv_at hl 0 rfl) ?_
  refine lv_bipush (v := (6 : Int32)) hx hb dX10_init_304 (by decide) ?_
  obtain ⟨n306, hn, hF⟩ := ob hF
  obtain ⟨o306, ho, hF⟩ := ob hF
  obtain ⟨S306, hv, hF⟩ := ob hF
  have ho := vtI ho
  have hv := vtI hv
  refine k_newI (atype := .int) (ty := .int) (kd := 12) 0 C0 M hA hs rfl (uw_of 185 (by decide +kernel) rfl) rfl (by decide) rfl rfl hn (Nat.le_of_ble_eq_true rfl) (Nat.le_of_ble_eq_true rfl) (Nat.le_of_ble_eq_true rfl) dX10_init_306 (fun H M => ?_)
  rw [hv] at M
  rw [ho]
  refine W.widen (k := 38) (n := 2789) (Nat.le_of_ble_eq_true rfl) (Nat.le_of_ble_eq_true rfl) ?_
  obtain ⟨S308, hv, hF⟩ := ob hF
  refine k_sPF C0 M hin rfl hv fl_X10_122 dX10_init_308 (fun H locs M => ?_)
  refine lv_aload_n hx hb dX10_init_311 rfl (lv_at hl 0 rfl) ?_
  refine lv_iconst (v := (4 : Int32)) hx hb dX10_init_312 (by decide) ?_
  obtain ⟨n313, hn, hF⟩ := ob hF
  obtain ⟨o313, ho, hF⟩ := ob hF
  obtain ⟨S313, hv, hF⟩ := ob hF
  have ho := vtI ho
  have hv := vtI hv
  refine k_newI (atype := .int) (ty := .int) (kd := 12) 0 C0 M hA hs rfl (uw_of 185 (by decide +kernel) rfl) rfl (by decide) rfl rfl hn (Nat.le_of_ble_eq_true rfl) (Nat.le_of_ble_eq_true rfl) (Nat.le_of_ble_eq_true rfl) dX10_init_313 (fun H M => ?_)
  rw [hv] at M
  rw [ho]
  refine W.widen (k := 39) (n := 2793) (Nat.le_of_ble_eq_true rfl) (Nat.le_of_ble_eq_true rfl) ?_
  obtain ⟨S315, hv, hF⟩ := ob hF
  refine k_sPF C0 M hin rfl hv fl_X10_125 dX10_init_315 (fun H locs M => ?_)
  refine lv_aload_n hx hb dX10_init_318 rfl (lv_at hl 0 rfl) ?_
  refine lv_iconst (v := (4 : Int32)) hx hb dX10_init_319 (by decide) ?_
  obtain ⟨n320, hn, hF⟩ := ob hF
  obtain ⟨o320, ho, hF⟩ := ob hF
  obtain ⟨S320, hv, hF⟩ := ob hF
  have ho := vtI ho
  have hv := vtI hv
  refine k_newI (atype := .int) (ty := .int) (kd := 12) 0 C0 M hA hs rfl (uw_of 185 (by decide +kernel) rfl) rfl (by decide) rfl rfl hn (Nat.le_of_ble_eq_true rfl) (Nat.le_of_ble_eq_true rfl) (Nat.le_of_ble_eq_true rfl) dX10_init_320 (fun H M => ?_)
  rw [hv] at M
  rw [ho]
  refine W.widen (k := 40) (n := 2797) (Nat.le_of_ble_eq_true rfl) (Nat.le_of_ble_eq_true rfl) ?_
  obtain ⟨S322, hv, hF⟩ := ob hF
  refine k_sPF C0 M hin rfl hv fl_X10_128 dX10_init_322 (fun H locs M => ?_)
  refine lv_aload_n hx hb dX10_init_325 rfl (lv_at hl 0 rfl) ?_
  refine lv_sipush (v := (240 : Int32)) hx hb dX10_init_326 (by decide) ?_
  obtain ⟨n329, hn, hF⟩ := ob hF
  obtain ⟨o329, ho, hF⟩ := ob hF
  obtain ⟨S329, hv, hF⟩ := ob hF
  have ho := vtI ho
  have hv := vtI hv
  refine k_newI (atype := .int) (ty := .int) (kd := 12) 0 C0 M hA hs rfl (uw_of 185 (by decide +kernel) rfl) rfl (by decide) rfl rfl hn (Nat.le_of_ble_eq_true rfl) (Nat.le_of_ble_eq_true rfl) (Nat.le_of_ble_eq_true rfl) dX10_init_329 (fun H M => ?_)
  rw [hv] at M
  rw [ho]
  refine W.widen (k := 41) (n := 3037) (Nat.le_of_ble_eq_true rfl) (Nat.le_of_ble_eq_true rfl) ?_
  obtain ⟨S331, hv, hF⟩ := ob hF
  refine k_sPF C0 M hin rfl hv fl_X10_131 dX10_init_331 (fun H locs M => ?_)
  refine lv_aload_n hx hb dX10_init_334 rfl (lv_at hl 0 rfl) ?_
  refine lv_bipush (v := (60 : Int32)) hx hb dX10_init_335 (by decide) ?_
  obtain ⟨n337, hn, hF⟩ := ob hF
  obtain ⟨o337, ho, hF⟩ := ob hF
  obtain ⟨S337, hv, hF⟩ := ob hF
  have ho := vtI ho
  have hv := vtI hv
  refine k_newI (atype := .int) (ty := .int) (kd := 12) 0 C0 M hA hs rfl (uw_of 185 (by decide +kernel) rfl) rfl (by decide) rfl rfl hn (Nat.le_of_ble_eq_true rfl) (Nat.le_of_ble_eq_true rfl) (Nat.le_of_ble_eq_true rfl) dX10_init_337 (fun H M => ?_)
  rw [hv] at M
  rw [ho]
  refine W.widen (k := 42) (n := 3097) (Nat.le_of_ble_eq_true rfl) (Nat.le_of_ble_eq_true rfl) ?_
  obtain ⟨S339, hv, hF⟩ := ob hF
  refine k_sPF C0 M hin rfl hv fl_X10_134 dX10_init_339 (fun H locs M => ?_)
  refine lv_aload_n hx hb dX10_init_342 rfl (lv_at hl 0 rfl) ?_
  refine lv_bipush (v := (99 : Int32)) hx hb dX10_init_343 (by decide) ?_
  obtain ⟨S345, hv, hF⟩ := ob hF
  refine k_sI C0 M hv fl_X10_137 dX10_init_345 (fun H locs M => ?_)
  refine lv_aload_n hx hb dX10_init_348 rfl (lv_at hl 0 rfl) ?_
  refine lv_bipush (v := (60 : Int32)) hx hb dX10_init_349 (by decide) ?_
  obtain ⟨S351, hv, hF⟩ := ob hF
  refine k_sI C0 M hv fl_X10_141 dX10_init_351 (fun H locs M => ?_)
  refine lv_iconst (v := (0 : Int32)) hx hb dX10_init_354 (by decide) ?_
  refine lv_istore_n (lv' := [(1, .int (0 : Int32)), (0, .ref (ad x0))]) hx hb dX10_init_355 rfl hl (by decide) rfl (fun ls hl => ?_)
  exact Kh0 _ _ _ (Option.some.inj hF).symm _ _ _ M (lv_sub hl [1, 0] rfl)
set_option maxHeartbeats 4000000 in
set_option maxRecDepth 100000 in
theorem wX10_init_356 {p : Program} {l : Launch} {e : Env} {s : State} {m : MethodId} {args : Array Value} {below : List Frame} {meth : Method} {c : Code} {D : va_G} {cy : Nat → ClassId} (ad : Nat → Nat) (A : Nat → Prop) {S : MS} {S' : MS} {H : Heap} {locs : List Loc} {K0 : Nat} {out : ((Nat × Int32 × MS) ⊕ MS)} {ls : Array Slot} {x0 : Nat} {x1 : Int32} (C0 : CX p s m args meth c RX10 cX10_init 2 D cy) (hA : ∀ k, 0 < k → A (ad k)) (hs : ∀ k, K0 ≤ k → ad (k + 1) + 1 = ad (k + 2)) (hE : EX ad A s) (M : ST D cy ad A s.heap (ZA ad K0) S H locs) (hr : meth.sig.returnType = none) (hin : meth.name = "<init>") (hF : bX10_init_356 S x0 x1 = some out) (hl : lv_has ls 2 [(0, .ref (ad x0)), (1, .int x1)]) (Kr : ∀ r9, out = .inr r9 → r9 = S') (Kh0 : ∀ (y0 : Nat) (y1 : Int32) (S2 : MS), out = .inl (y0, y1, S2) → ∀ (H1 : Heap) (locs1 : List Loc) (ls1 : Array Slot), ST D cy ad A s.heap (ZA ad K0) S2 H1 locs1 → lv_has ls1 2 [(0, .ref (ad y0)), (1, .int y1)] → W p l e rmX10_init s m args below meth c H1 locs1 42 3097 (MQ below (QcA D cy ad A K0 S' (none)) args s 42 3097 A) (F0 m 356 ls1 [])) : W p l e rmX10_init s m args below meth c H locs 42 3097 (MQ below (QcA D cy ad A K0 S' (none)) args s 42 3097 A) (F0 m 356 ls []) := by
  unfold bX10_init_356 at hF
  obtain ⟨hx, hb, -, hown, -, hts, -⟩ := id C0
  refine lv_iload_n hx hb dX10_init_356 rfl (lv_at hl 1 rfl) ?_
  refine lv_iconst (v := (4 : Int32)) hx hb dX10_init_357 (by decide) ?_
  refine lv_icmp_ge (tgt := 374) hx hb dX10_init_358 (by decide) (fun hc => ?_) (fun hc => ?_)
  · have hF := oi_t hc hF
    obtain rfl := (Kr _ (Option.some.inj hF).symm)
    exact rt_AV C0 M hr dX10_init_374
  · have hF := oi_f hc hF
    refine lv_aload_n hx hb dX10_init_361 rfl (lv_at hl 0 rfl) ?_
    obtain ⟨v362, hv, hF⟩ := ob hF
    refine k_getP C0 M.1 hv fl_X10_125 dX10_init_362 ?_
    refine lv_iload_n hx hb dX10_init_365 rfl (lv_at hl 1 rfl) ?_
    refine lv_iconst (v := (-1 : Int32)) hx hb dX10_init_366 (by decide) ?_
    obtain ⟨S367, hv, hF⟩ := ob hF
    refine k_st C0 M hv dX10_init_367 (fun H locs M => ?_)
    obtain ⟨v368, hv, hF⟩ := ob hF
    refine lv_iinc (v := v368) (lv' := [(1, .int v368), (0, .ref (ad x0))]) hx hb dX10_init_368 hl (k := 1) rfl (by rw [← vtI hv]; rfl) (by decide) rfl (fun ls hl => ?_)
    refine lv_goto (tgt := 356) hx hb dX10_init_371 (by decide) ?_
    exact Kh0 _ _ _ (Option.some.inj hF).symm _ _ _ M (lv_sub hl [1, 0] rfl)
set_option maxHeartbeats 4000000 in
set_option maxRecDepth 100000 in
theorem tX10_init (l : Launch) (D : va_G) (cy : Nat → ClassId) (ad : Nat → Nat) (A : Nat → Prop) (K0 : Nat) (hA : ∀ k, 0 < k → A (ad k)) (hs : ∀ k, K0 ≤ k → ad (k + 1) + 1 = ad (k + 2)) {S S' : MS} {a0 : Nat} (h : fX10_init S a0 = some S') : Met l yX10_init [Cond.code yX10_init cX10_init 2 (none)] rmX10_init (PcA D cy ad A K0 S [.ref (ad a0)]) (QcA D cy ad A K0 S' (none)) 42 3097 A := by
  refine met_A (by decide +kernel) cw_X10_init (Nat.le_of_ble_eq_true rfl) ?_
  intro p e s m args below meth c ls C0 hE M hr hin hl
  have hl : lv_has ls 2 [(0, .ref (ad a0))] := hl
  have key := lim_walk (step := sX10_init) (fun (q : (Nat × Int32 × MS)) (r9 : MS) => ∀ (S' : MS), r9 = S' → ((∀ (y0 : Nat) (y1 : Int32) (S2 : MS), q = (y0, y1, S2) → ∀ (H1 : Heap) (locs1 : List Loc) (ls1 : Array Slot), ST D cy ad A s.heap (ZA ad K0) S2 H1 locs1 → lv_has ls1 2 [(0, .ref (ad y0)), (1, .int y1)] → W p l e rmX10_init s m args below meth c H1 locs1 42 3097 (MQ below (QcA D cy ad A K0 S' (none)) args s 42 3097 A) (F0 m 356 ls1 [])))) ?_
  · unfold fX10_init at h
    cases hs0 : bX10_init_0 S a0 with
    | none => rw [hs0] at h; cases h
    | some out =>
      rw [hs0] at h
      refine wX10_init_0 ad A C0 hA hs hE M hr hin hs0 hl (fun r9 hr9 => ?_) ?_
      · subst hr9; exact Option.some.inj h
      · intro y0 y1 y2 hq; subst hq; exact (key _ _ h _ rfl) _ _ _ rfl
  · intro q r9 out hst hre hin9
    intro S' er; subst er
    refine ?_
    · intro y0 y1 y2 hq H1 locs1 ls1 M hl
      subst hq
      exact wX10_init_356 ad A C0 hA hs hE M hr hin hst hl hre (fun k0 k1 k2 hk => (hin9 _ hk _ rfl) _ _ _ rfl)
set_option maxHeartbeats 4000000 in
set_option maxRecDepth 100000 in
theorem wX10_hasBit_14 {p : Program} {l : Launch} {e : Env} {s : State} {m : MethodId} {args : Array Value} {below : List Frame} {meth : Method} {c : Code} {D : va_G} {cy : Nat → ClassId} (ad : Nat → Nat) (A : Nat → Prop) {r : Int32} {ls : Array Slot} {z0 : Int32} (C0 : CX p s m args meth c RX10 cX10_hasBit 2 D cy) (hr : meth.sig.returnType = some .boolean) (hF : bX10_hasBit_14 z0 = some r) (hl : lv_has ls 2 []) : W p l e rmX10_hasBit s m args below meth c s.heap [] 0 0 (MQ below (QcS (some (.int r))) args s 0 0 (fun _ => False)) (F0 m 14 ls [.int z0]) := by
  unfold bX10_hasBit_14 at hF
  obtain ⟨hx, hb, -, hown, -, hts, -⟩ := id C0
  obtain ⟨z14, hz, hF⟩ := ob hF
  have hz2 := (o_if hz).2
  refine vtopi hz2 ?_
  rw [hz2] at hz
  obtain rfl := (Option.some.inj hF)
  exact rt_SZ C0 hr hz dX10_hasBit_14
set_option maxHeartbeats 4000000 in
set_option maxRecDepth 100000 in
theorem wX10_hasBit_0 {p : Program} {l : Launch} {e : Env} {s : State} {m : MethodId} {args : Array Value} {below : List Frame} {meth : Method} {c : Code} {D : va_G} {cy : Nat → ClassId} (ad : Nat → Nat) (A : Nat → Prop) {r : Int32} {ls : Array Slot} {x0 : Int32} {x1 : Int32} (C0 : CX p s m args meth c RX10 cX10_hasBit 2 D cy) (hr : meth.sig.returnType = some .boolean) (hF : bX10_hasBit_0 x0 x1 = some r) (hl : lv_has ls 2 [(0, .int x0), (1, .int x1)]) : W p l e rmX10_hasBit s m args below meth c s.heap [] 0 0 (MQ below (QcS (some (.int r))) args s 0 0 (fun _ => False)) (F0 m 0 ls []) := by
  unfold bX10_hasBit_0 at hF
  obtain ⟨hx, hb, -, hown, -, hts, -⟩ := id C0
  refine lv_iload_n hx hb dX10_hasBit_0 rfl (lv_at hl 0 rfl) ?_
  refine lv_iload_n hx hb dX10_hasBit_1 rfl (lv_at hl 1 rfl) ?_
  refine lv_ishr hx hb dX10_hasBit_2 ?_
  refine lv_iconst (v := (1 : Int32)) hx hb dX10_hasBit_3 (by decide) ?_
  refine lv_iand hx hb dX10_hasBit_4 ?_
  refine lv_iconst (v := (1 : Int32)) hx hb dX10_hasBit_5 (by decide) ?_
  refine lv_icmp_ne (tgt := 13) hx hb dX10_hasBit_6 (by decide) (fun hc => ?_) (fun hc => ?_)
  · have hF := oi_f hc hF
    refine lv_iconst (v := (0 : Int32)) hx hb dX10_hasBit_13 (by decide) ?_
    exact wX10_hasBit_14 ad A C0 hr hF (lv_sub hl [] rfl)
  · have hF := oi_t hc hF
    refine lv_iconst (v := (1 : Int32)) hx hb dX10_hasBit_9 (by decide) ?_
    refine lv_goto (tgt := 14) hx hb dX10_hasBit_10 (by decide) ?_
    exact wX10_hasBit_14 ad A C0 hr hF (lv_sub hl [] rfl)
set_option maxHeartbeats 4000000 in
set_option maxRecDepth 100000 in
theorem tX10_hasBit (l : Launch) (D : va_G) (cy : Nat → ClassId) (ad : Nat → Nat) {a0 : Int32} {a1 : Int32} {r : Int32} (h : fX10_hasBit a0 a1 = some r) : Met l yX10_hasBit [Cond.code yX10_hasBit cX10_hasBit 2 (some .boolean)] rmX10_hasBit (PcS D cy [.int a0, .int a1]) (QcS (some (.int r))) 0 0 (fun _ => False) := by
  refine met_S (by decide +kernel) cw_X10_hasBit (Nat.le_of_ble_eq_true rfl) ?_
  intro p e s m args below meth c ls C0 hr hl
  have hl : lv_has ls 2 [(0, .int a0), (1, .int a1)] := hl
  exact wX10_hasBit_0 ad (fun _ => False) C0 hr h hl
set_option maxHeartbeats 4000000 in
set_option maxRecDepth 100000 in
theorem wX10_count_0 {p : Program} {l : Launch} {e : Env} {s : State} {m : MethodId} {args : Array Value} {below : List Frame} {meth : Method} {c : Code} {D : va_G} {cy : Nat → ClassId} (ad : Nat → Nat) (A : Nat → Prop) {r : Int32} {out : ((Int32 × Int32 × Int32) ⊕ Int32)} {ls : Array Slot} {x0 : Int32} (C0 : CX p s m args meth c RX10 cX10_count 3 D cy) (hr : meth.sig.returnType = some .int) (hF : bX10_count_0 x0 = some out) (hl : lv_has ls 3 [(0, .int x0)]) (Kr : ∀ r9, out = .inr r9 → r9 = r) (Kh0 : ∀ (y0 : Int32) (y1 : Int32) (y2 : Int32), out = .inl (y0, y1, y2) → ∀ (ls1 : Array Slot), lv_has ls1 3 [(0, .int y0), (1, .int y1), (2, .int y2)] → W p l e rmX10_count s m args below meth c s.heap [] 0 0 (MQ below (QcS (some (.int r))) args s 0 0 (fun _ => False)) (F0 m 4 ls1 [])) : W p l e rmX10_count s m args below meth c s.heap [] 0 0 (MQ below (QcS (some (.int r))) args s 0 0 (fun _ => False)) (F0 m 0 ls []) := by
  unfold bX10_count_0 at hF
  obtain ⟨hx, hb, -, hown, -, hts, -⟩ := id C0
  refine lv_iconst (v := (0 : Int32)) hx hb dX10_count_0 (by decide) ?_
  refine lv_istore_n (lv' := [(1, .int (0 : Int32)), (0, .int x0)]) hx hb dX10_count_1 rfl hl (by decide) rfl (fun ls hl => ?_)
  refine lv_iconst (v := (0 : Int32)) hx hb dX10_count_2 (by decide) ?_
  refine lv_istore_n (lv' := [(2, .int (0 : Int32)), (1, .int (0 : Int32)), (0, .int x0)]) hx hb dX10_count_3 rfl hl (by decide) rfl (fun ls hl => ?_)
  exact Kh0 _ _ _ (Option.some.inj hF).symm _ (lv_sub hl [2, 1, 0] rfl)
set_option maxHeartbeats 4000000 in
set_option maxRecDepth 100000 in
theorem wX10_count_4 {p : Program} {l : Launch} {e : Env} {s : State} {m : MethodId} {args : Array Value} {below : List Frame} {meth : Method} {c : Code} {D : va_G} {cy : Nat → ClassId} (ad : Nat → Nat) (A : Nat → Prop) {r : Int32} {out : ((Int32 × Int32 × Int32) ⊕ Int32)} {ls : Array Slot} {x0 : Int32} {x1 : Int32} {x2 : Int32} (C0 : CX p s m args meth c RX10 cX10_count 3 D cy) (hr : meth.sig.returnType = some .int) (hF : bX10_count_4 x0 x1 x2 = some out) (hl : lv_has ls 3 [(0, .int x0), (1, .int x1), (2, .int x2)]) (Kr : ∀ r9, out = .inr r9 → r9 = r) (Kh0 : ∀ (y0 : Int32) (y1 : Int32) (y2 : Int32), out = .inl (y0, y1, y2) → ∀ (ls1 : Array Slot), lv_has ls1 3 [(0, .int y0), (1, .int y1), (2, .int y2)] → W p l e rmX10_count s m args below meth c s.heap [] 0 0 (MQ below (QcS (some (.int r))) args s 0 0 (fun _ => False)) (F0 m 4 ls1 [])) : W p l e rmX10_count s m args below meth c s.heap [] 0 0 (MQ below (QcS (some (.int r))) args s 0 0 (fun _ => False)) (F0 m 4 ls []) := by
  unfold bX10_count_4 at hF
  obtain ⟨hx, hb, -, hown, -, hts, -⟩ := id C0
  refine lv_iload_n hx hb dX10_count_4 rfl (lv_at hl 2 rfl) ?_
  refine lv_bipush (v := (12 : Int32)) hx hb dX10_count_5 (by decide) ?_
  refine lv_icmp_ge (tgt := 24) hx hb dX10_count_7 (by decide) (fun hc => ?_) (fun hc => ?_)
  · have hF := oi_t hc hF
    refine lv_iload_n hx hb dX10_count_24 rfl (lv_at hl 1 rfl) ?_
    obtain rfl := (Kr _ (Option.some.inj hF).symm)
    exact rt_SI C0 hr dX10_count_25
  · have hF := oi_f hc hF
    refine lv_iload_n hx hb dX10_count_10 rfl (lv_at hl 1 rfl) ?_
    refine lv_iload_n hx hb dX10_count_11 rfl (lv_at hl 0 rfl) ?_
    refine lv_iload_n hx hb dX10_count_12 rfl (lv_at hl 2 rfl) ?_
    refine lv_ishr hx hb dX10_count_13 ?_
    refine lv_iconst (v := (1 : Int32)) hx hb dX10_count_14 (by decide) ?_
    refine lv_iand hx hb dX10_count_15 ?_
    refine lv_iadd hx hb dX10_count_16 ?_
    obtain ⟨v17, hv, hF⟩ := ob hF
    have hv := vtI hv
    refine vtopi hv ?_
    refine lv_istore_n (lv' := [(1, .int v17), (0, .int x0), (2, .int x2)]) hx hb dX10_count_17 rfl hl (by decide) rfl (fun ls hl => ?_)
    obtain ⟨v18, hv, hF⟩ := ob hF
    refine lv_iinc (v := v18) (lv' := [(2, .int v18), (1, .int v17), (0, .int x0)]) hx hb dX10_count_18 hl (k := 2) rfl (by rw [← vtI hv]; rfl) (by decide) rfl (fun ls hl => ?_)
    refine lv_goto (tgt := 4) hx hb dX10_count_21 (by decide) ?_
    exact Kh0 _ _ _ (Option.some.inj hF).symm _ (lv_sub hl [2, 1, 0] rfl)
set_option maxHeartbeats 4000000 in
set_option maxRecDepth 100000 in
theorem tX10_count (l : Launch) (D : va_G) (cy : Nat → ClassId) (ad : Nat → Nat) {a0 : Int32} {r : Int32} (h : fX10_count a0 = some r) : Met l yX10_count [Cond.code yX10_count cX10_count 3 (some .int)] rmX10_count (PcS D cy [.int a0]) (QcS (some (.int r))) 0 0 (fun _ => False) := by
  refine met_S (by decide +kernel) cw_X10_count (Nat.le_of_ble_eq_true rfl) ?_
  intro p e s m args below meth c ls C0 hr hl
  have hl : lv_has ls 3 [(0, .int a0)] := hl
  have key := lim_walk (step := sX10_count) (fun (q : (Int32 × Int32 × Int32)) (r9 : Int32) => ∀ (r : Int32), r9 = r → ((∀ (y0 : Int32) (y1 : Int32) (y2 : Int32), q = (y0, y1, y2) → ∀ (ls1 : Array Slot), lv_has ls1 3 [(0, .int y0), (1, .int y1), (2, .int y2)] → W p l e rmX10_count s m args below meth c s.heap [] 0 0 (MQ below (QcS (some (.int r))) args s 0 0 (fun _ => False)) (F0 m 4 ls1 [])))) ?_
  · unfold fX10_count at h
    cases hs0 : bX10_count_0 a0 with
    | none => rw [hs0] at h; cases h
    | some out =>
      rw [hs0] at h
      refine wX10_count_0 ad (fun _ => False) C0 hr hs0 hl (fun r9 hr9 => ?_) ?_
      · subst hr9; exact Option.some.inj h
      · intro y0 y1 y2 hq; subst hq; exact (key _ _ h _ rfl) _ _ _ rfl
  · intro q r9 out hst hre hin9
    intro r er; subst er
    refine ?_
    · intro y0 y1 y2 hq ls1 hl
      subst hq
      exact wX10_count_4 ad (fun _ => False) C0 hr hst hl hre (fun k0 k1 k2 hk => (hin9 _ hk _ rfl) _ _ _ rfl)
set_option maxHeartbeats 4000000 in
set_option maxRecDepth 100000 in
theorem wX10_sizeOf_10 {p : Program} {l : Launch} {e : Env} {s : State} {m : MethodId} {args : Array Value} {below : List Frame} {meth : Method} {c : Code} {D : va_G} {cy : Nat → ClassId} (ad : Nat → Nat) (A : Nat → Prop) {r : Int32} {ls : Array Slot} {z0 : Int32} (C0 : CX p s m args meth c RX10 cX10_sizeOf 1 D cy) (hr : meth.sig.returnType = some .int) (hF : bX10_sizeOf_10 z0 = some r) (hl : lv_has ls 1 []) : W p l e rmX10_sizeOf s m args below meth c s.heap [] 0 0 (MQ below (QcS (some (.int r))) args s 0 0 (fun _ => False)) (F0 m 10 ls [.int z0]) := by
  unfold bX10_sizeOf_10 at hF
  obtain ⟨hx, hb, -, hown, -, hts, -⟩ := id C0
  obtain rfl := (Option.some.inj hF)
  exact rt_SI C0 hr dX10_sizeOf_10
set_option maxHeartbeats 4000000 in
set_option maxRecDepth 100000 in
theorem wX10_sizeOf_0 {p : Program} {l : Launch} {e : Env} {s : State} {m : MethodId} {args : Array Value} {below : List Frame} {meth : Method} {c : Code} {D : va_G} {cy : Nat → ClassId} (ad : Nat → Nat) (A : Nat → Prop) {r : Int32} {ls : Array Slot} {x0 : Int32} (C0 : CX p s m args meth c RX10 cX10_sizeOf 1 D cy) (hr : meth.sig.returnType = some .int) (hF : bX10_sizeOf_0 x0 = some r) (hl : lv_has ls 1 [(0, .int x0)]) : W p l e rmX10_sizeOf s m args below meth c s.heap [] 0 0 (MQ below (QcS (some (.int r))) args s 0 0 (fun _ => False)) (F0 m 0 ls []) := by
  unfold bX10_sizeOf_0 at hF
  obtain ⟨hx, hb, -, hown, -, hts, -⟩ := id C0
  refine lv_iload_n hx hb dX10_sizeOf_0 rfl (lv_at hl 0 rfl) ?_
  refine lv_if_ge (tgt := 9) hx hb dX10_sizeOf_1 (by decide) (fun hc => ?_) (fun hc => ?_)
  · have hF := oi_t hc hF
    refine lv_iload_n hx hb dX10_sizeOf_9 rfl (lv_at hl 0 rfl) ?_
    exact wX10_sizeOf_10 ad A C0 hr hF (lv_sub hl [] rfl)
  · have hF := oi_f hc hF
    refine lv_iload_n hx hb dX10_sizeOf_4 rfl (lv_at hl 0 rfl) ?_
    refine lv_ineg hx hb dX10_sizeOf_5 ?_
    refine lv_goto (tgt := 10) hx hb dX10_sizeOf_6 (by decide) ?_
    exact wX10_sizeOf_10 ad A C0 hr hF (lv_sub hl [] rfl)
set_option maxHeartbeats 4000000 in
set_option maxRecDepth 100000 in
theorem tX10_sizeOf (l : Launch) (D : va_G) (cy : Nat → ClassId) (ad : Nat → Nat) {a0 : Int32} {r : Int32} (h : fX10_sizeOf a0 = some r) : Met l yX10_sizeOf [Cond.code yX10_sizeOf cX10_sizeOf 1 (some .int)] rmX10_sizeOf (PcS D cy [.int a0]) (QcS (some (.int r))) 0 0 (fun _ => False) := by
  refine met_S (by decide +kernel) cw_X10_sizeOf (Nat.le_of_ble_eq_true rfl) ?_
  intro p e s m args below meth c ls C0 hr hl
  have hl : lv_has ls 1 [(0, .int a0)] := hl
  exact wX10_sizeOf_0 ad (fun _ => False) C0 hr h hl
set_option maxHeartbeats 4000000 in
set_option maxRecDepth 100000 in
theorem wX10_greater_10 {p : Program} {l : Launch} {e : Env} {s : State} {m : MethodId} {args : Array Value} {below : List Frame} {meth : Method} {c : Code} {D : va_G} {cy : Nat → ClassId} (ad : Nat → Nat) (A : Nat → Prop) {r : Int32} {ls : Array Slot} {z0 : Int32} (C0 : CX p s m args meth c RX10 cX10_greater 2 D cy) (hr : meth.sig.returnType = some .int) (hF : bX10_greater_10 z0 = some r) (hl : lv_has ls 2 []) : W p l e rmX10_greater s m args below meth c s.heap [] 0 0 (MQ below (QcS (some (.int r))) args s 0 0 (fun _ => False)) (F0 m 10 ls [.int z0]) := by
  unfold bX10_greater_10 at hF
  obtain ⟨hx, hb, -, hown, -, hts, -⟩ := id C0
  obtain rfl := (Option.some.inj hF)
  exact rt_SI C0 hr dX10_greater_10
set_option maxHeartbeats 4000000 in
set_option maxRecDepth 100000 in
theorem wX10_greater_0 {p : Program} {l : Launch} {e : Env} {s : State} {m : MethodId} {args : Array Value} {below : List Frame} {meth : Method} {c : Code} {D : va_G} {cy : Nat → ClassId} (ad : Nat → Nat) (A : Nat → Prop) {r : Int32} {ls : Array Slot} {x0 : Int32} {x1 : Int32} (C0 : CX p s m args meth c RX10 cX10_greater 2 D cy) (hr : meth.sig.returnType = some .int) (hF : bX10_greater_0 x0 x1 = some r) (hl : lv_has ls 2 [(0, .int x0), (1, .int x1)]) : W p l e rmX10_greater s m args below meth c s.heap [] 0 0 (MQ below (QcS (some (.int r))) args s 0 0 (fun _ => False)) (F0 m 0 ls []) := by
  unfold bX10_greater_0 at hF
  obtain ⟨hx, hb, -, hown, -, hts, -⟩ := id C0
  refine lv_iload_n hx hb dX10_greater_0 rfl (lv_at hl 0 rfl) ?_
  refine lv_iload_n hx hb dX10_greater_1 rfl (lv_at hl 1 rfl) ?_
  refine lv_icmp_le (tgt := 9) hx hb dX10_greater_2 (by decide) (fun hc => ?_) (fun hc => ?_)
  · have hF := oi_t hc hF
    refine lv_iload_n hx hb dX10_greater_9 rfl (lv_at hl 1 rfl) ?_
    exact wX10_greater_10 ad A C0 hr hF (lv_sub hl [] rfl)
  · have hF := oi_f hc hF
    refine lv_iload_n hx hb dX10_greater_5 rfl (lv_at hl 0 rfl) ?_
    refine lv_goto (tgt := 10) hx hb dX10_greater_6 (by decide) ?_
    exact wX10_greater_10 ad A C0 hr hF (lv_sub hl [] rfl)
set_option maxHeartbeats 4000000 in
set_option maxRecDepth 100000 in
theorem tX10_greater (l : Launch) (D : va_G) (cy : Nat → ClassId) (ad : Nat → Nat) {a0 : Int32} {a1 : Int32} {r : Int32} (h : fX10_greater a0 a1 = some r) : Met l yX10_greater [Cond.code yX10_greater cX10_greater 2 (some .int)] rmX10_greater (PcS D cy [.int a0, .int a1]) (QcS (some (.int r))) 0 0 (fun _ => False) := by
  refine met_S (by decide +kernel) cw_X10_greater (Nat.le_of_ble_eq_true rfl) ?_
  intro p e s m args below meth c ls C0 hr hl
  have hl : lv_has ls 2 [(0, .int a0), (1, .int a1)] := hl
  exact wX10_greater_0 ad (fun _ => False) C0 hr h hl
set_option maxHeartbeats 4000000 in
set_option maxRecDepth 100000 in
theorem wX10_stepsOf_0 {p : Program} {l : Launch} {e : Env} {s : State} {m : MethodId} {args : Array Value} {below : List Frame} {meth : Method} {c : Code} {D : va_G} {cy : Nat → ClassId} (ad : Nat → Nat) (A : Nat → Prop) {r : Int32} {ls : Array Slot} {x0 : Int32} {x1 : Int32} (C0 : CX p s m args meth c RX10 cX10_stepsOf 2 D cy) (hr : meth.sig.returnType = some .int) (hF : bX10_stepsOf_0 x0 x1 = some r) (hl : lv_has ls 2 [(0, .int x0), (1, .int x1)]) : W p l e rmX10_stepsOf s m args below meth c s.heap [] 0 0 (MQ below (QcS (some (.int r))) args s 0 0 (fun _ => False)) (F0 m 0 ls []) := by
  unfold bX10_stepsOf_0 at hF
  obtain ⟨hx, hb, -, hown, -, hts, -⟩ := id C0
  refine lv_iload_n hx hb dX10_stepsOf_0 rfl (lv_at hl 0 rfl) ?_
  refine lv_bipush (v := (12 : Int32)) hx hb dX10_stepsOf_1 (by decide) ?_
  refine lv_irem hx hb dX10_stepsOf_3 (by decide) ?_
  refine lv_iload_n hx hb dX10_stepsOf_4 rfl (lv_at hl 1 rfl) ?_
  refine lv_bipush (v := (12 : Int32)) hx hb dX10_stepsOf_5 (by decide) ?_
  refine lv_irem hx hb dX10_stepsOf_7 (by decide) ?_
  refine lv_isub hx hb dX10_stepsOf_8 ?_
  obtain ⟨v9, hcl, hF⟩ := ob hF
  refine go_SI (r_S (rest := []) (As := [.int ((x0 - x0 / (12 : Int32) * (12 : Int32)) - (x1 - x1 / (12 : Int32) * (12 : Int32)))]) C0 cb_X10_195 (tX10_sizeOf l D cy ad hcl) (pre_S C0) hl dX10_stepsOf_9 rfl (Nat.le_of_ble_eq_true rfl) ⟨rfl, rfl⟩ ⟨Nat.le_of_ble_eq_true rfl, Nat.le_of_ble_eq_true rfl⟩ ⟨Nat.le_of_ble_eq_true rfl, Nat.le_of_ble_eq_true rfl⟩ rfl) ?_
  refine lv_iload_n hx hb dX10_stepsOf_12 rfl (lv_at hl 0 rfl) ?_
  refine lv_bipush (v := (12 : Int32)) hx hb dX10_stepsOf_13 (by decide) ?_
  refine lv_idiv hx hb dX10_stepsOf_15 (by decide) ?_
  refine lv_iload_n hx hb dX10_stepsOf_16 rfl (lv_at hl 1 rfl) ?_
  refine lv_bipush (v := (12 : Int32)) hx hb dX10_stepsOf_17 (by decide) ?_
  refine lv_idiv hx hb dX10_stepsOf_19 (by decide) ?_
  refine lv_isub hx hb dX10_stepsOf_20 ?_
  obtain ⟨v21, hcl, hF⟩ := ob hF
  refine go_SI (r_S (rest := [.int v9]) (As := [.int ((x0 / (12 : Int32)) - (x1 / (12 : Int32)))]) C0 cb_X10_195 (tX10_sizeOf l D cy ad hcl) (pre_S C0) hl dX10_stepsOf_21 rfl (Nat.le_of_ble_eq_true rfl) ⟨rfl, rfl⟩ ⟨Nat.le_of_ble_eq_true rfl, Nat.le_of_ble_eq_true rfl⟩ ⟨Nat.le_of_ble_eq_true rfl, Nat.le_of_ble_eq_true rfl⟩ rfl) ?_
  obtain ⟨v24, hcl, hF⟩ := ob hF
  refine go_SI (r_S (rest := []) (As := [.int v9, .int v21]) C0 cb_X10_198 (tX10_greater l D cy ad hcl) (pre_S C0) hl dX10_stepsOf_24 rfl (Nat.le_of_ble_eq_true rfl) ⟨rfl, rfl⟩ ⟨Nat.le_of_ble_eq_true rfl, Nat.le_of_ble_eq_true rfl⟩ ⟨Nat.le_of_ble_eq_true rfl, Nat.le_of_ble_eq_true rfl⟩ rfl) ?_
  obtain rfl := (Option.some.inj hF)
  exact rt_SI C0 hr dX10_stepsOf_27
set_option maxHeartbeats 4000000 in
set_option maxRecDepth 100000 in
theorem tX10_stepsOf (l : Launch) (D : va_G) (cy : Nat → ClassId) (ad : Nat → Nat) {a0 : Int32} {a1 : Int32} {r : Int32} (h : fX10_stepsOf a0 a1 = some r) : Met l yX10_stepsOf [Cond.code yX10_stepsOf cX10_stepsOf 2 (some .int)] rmX10_stepsOf (PcS D cy [.int a0, .int a1]) (QcS (some (.int r))) 0 0 (fun _ => False) := by
  refine met_S (by decide +kernel) cw_X10_stepsOf (Nat.le_of_ble_eq_true rfl) ?_
  intro p e s m args below meth c ls C0 hr hl
  have hl : lv_has ls 2 [(0, .int a0), (1, .int a1)] := hl
  exact wX10_stepsOf_0 ad (fun _ => False) C0 hr h hl
set_option maxHeartbeats 4000000 in
set_option maxRecDepth 100000 in
theorem wX10_doQuarrel_44 {p : Program} {l : Launch} {e : Env} {s : State} {m : MethodId} {args : Array Value} {below : List Frame} {meth : Method} {c : Code} {D : va_G} {cy : Nat → ClassId} (ad : Nat → Nat) (A : Nat → Prop) {S : MS} {r : Int32} {ls : Array Slot} {z0 : Int32} (C0 : CX p s m args meth c RX10 cX10_doQuarrel 3 D cy) (M : MW D cy ad A S s.heap) (hr : meth.sig.returnType = some .boolean) (hF : bX10_doQuarrel_44 S z0 = some r) (hl : lv_has ls 3 []) : W p l e rmX10_doQuarrel s m args below meth c s.heap [] 0 0 (MQ below (QcS (some (.int r))) args s 0 0 (fun _ => False)) (F0 m 44 ls [.int z0]) := by
  unfold bX10_doQuarrel_44 at hF
  obtain ⟨hx, hb, -, hown, -, hts, -⟩ := id C0
  obtain ⟨z44, hz, hF⟩ := ob hF
  have hz2 := (o_if hz).2
  refine vtopi hz2 ?_
  rw [hz2] at hz
  obtain rfl := (Option.some.inj hF)
  exact rt_SZ C0 hr hz dX10_doQuarrel_44
set_option maxHeartbeats 4000000 in
set_option maxRecDepth 100000 in
theorem wX10_doQuarrel_0 {p : Program} {l : Launch} {e : Env} {s : State} {m : MethodId} {args : Array Value} {below : List Frame} {meth : Method} {c : Code} {D : va_G} {cy : Nat → ClassId} (ad : Nat → Nat) (A : Nat → Prop) {S : MS} {r : Int32} {ls : Array Slot} {x0 : Nat} {x1 : Int32} {x2 : Int32} (C0 : CX p s m args meth c RX10 cX10_doQuarrel 3 D cy) (M : MW D cy ad A S s.heap) (hr : meth.sig.returnType = some .boolean) (hF : bX10_doQuarrel_0 S x0 x1 x2 = some r) (hl : lv_has ls 3 [(0, .ref (ad x0)), (1, .int x1), (2, .int x2)]) : W p l e rmX10_doQuarrel s m args below meth c s.heap [] 0 0 (MQ below (QcS (some (.int r))) args s 0 0 (fun _ => False)) (F0 m 0 ls []) := by
  unfold bX10_doQuarrel_0 at hF
  obtain ⟨hx, hb, -, hown, -, hts, -⟩ := id C0
  refine lv_aload_n hx hb dX10_doQuarrel_0 rfl (lv_at hl 0 rfl) ?_
  obtain ⟨v1, hv, hF⟩ := ob hF
  refine k_getP C0 M hv fl_X10_52 dX10_doQuarrel_1 ?_
  refine lv_iload_n hx hb dX10_doQuarrel_4 rfl (lv_at hl 1 rfl) ?_
  obtain ⟨v5, hv, hF⟩ := ob hF
  refine k_ld C0 M hv dX10_doQuarrel_5 ?_
  refine lv_aload_n hx hb dX10_doQuarrel_6 rfl (lv_at hl 0 rfl) ?_
  obtain ⟨v7, hv, hF⟩ := ob hF
  refine k_getP C0 M hv fl_X10_52 dX10_doQuarrel_7 ?_
  refine lv_iload_n hx hb dX10_doQuarrel_10 rfl (lv_at hl 2 rfl) ?_
  obtain ⟨v11, hv, hF⟩ := ob hF
  refine k_ld C0 M hv dX10_doQuarrel_11 ?_
  refine lv_isub hx hb dX10_doQuarrel_12 ?_
  obtain ⟨v13, hcl, hF⟩ := ob hF
  refine go_SI (r_S (rest := []) (As := [.int (v5 - v11)]) C0 cb_X10_195 (tX10_sizeOf l D cy ad hcl) (pre_S C0) hl dX10_doQuarrel_13 rfl (Nat.le_of_ble_eq_true rfl) ⟨rfl, rfl⟩ ⟨Nat.le_of_ble_eq_true rfl, Nat.le_of_ble_eq_true rfl⟩ ⟨Nat.le_of_ble_eq_true rfl, Nat.le_of_ble_eq_true rfl⟩ rfl) ?_
  refine lv_aload_n hx hb dX10_doQuarrel_16 rfl (lv_at hl 0 rfl) ?_
  obtain ⟨v17, hv, hF⟩ := ob hF
  refine k_getI C0 M hv fl_X10_141 dX10_doQuarrel_17 ?_
  refine lv_aload_n hx hb dX10_doQuarrel_20 rfl (lv_at hl 0 rfl) ?_
  obtain ⟨v21, hv, hF⟩ := ob hF
  refine k_getP C0 M hv fl_X10_49 dX10_doQuarrel_21 ?_
  refine lv_iload_n hx hb dX10_doQuarrel_24 rfl (lv_at hl 1 rfl) ?_
  obtain ⟨v25, hv, hF⟩ := ob hF
  refine k_ld C0 M hv dX10_doQuarrel_25 ?_
  refine lv_aload_n hx hb dX10_doQuarrel_26 rfl (lv_at hl 0 rfl) ?_
  obtain ⟨v27, hv, hF⟩ := ob hF
  refine k_getP C0 M hv fl_X10_49 dX10_doQuarrel_27 ?_
  refine lv_iload_n hx hb dX10_doQuarrel_30 rfl (lv_at hl 2 rfl) ?_
  obtain ⟨v31, hv, hF⟩ := ob hF
  refine k_ld C0 M hv dX10_doQuarrel_31 ?_
  obtain ⟨v32, hcl, hF⟩ := ob hF
  refine go_SI (r_S (rest := [.int v17, .int v13]) (As := [.int v25, .int v31]) C0 cb_X10_257 (tX10_stepsOf l D cy ad hcl) (pre_S C0) hl dX10_doQuarrel_32 rfl (Nat.le_of_ble_eq_true rfl) ⟨rfl, rfl⟩ ⟨Nat.le_of_ble_eq_true rfl, Nat.le_of_ble_eq_true rfl⟩ ⟨Nat.le_of_ble_eq_true rfl, Nat.le_of_ble_eq_true rfl⟩ rfl) ?_
  refine lv_imul hx hb dX10_doQuarrel_35 ?_
  refine lv_icmp_le (tgt := 43) hx hb dX10_doQuarrel_36 (by decide) (fun hc => ?_) (fun hc => ?_)
  · have hF := oi_t hc hF
    refine lv_iconst (v := (0 : Int32)) hx hb dX10_doQuarrel_43 (by decide) ?_
    exact wX10_doQuarrel_44 ad A C0 M hr hF (lv_sub hl [] rfl)
  · have hF := oi_f hc hF
    refine lv_iconst (v := (1 : Int32)) hx hb dX10_doQuarrel_39 (by decide) ?_
    refine lv_goto (tgt := 44) hx hb dX10_doQuarrel_40 (by decide) ?_
    exact wX10_doQuarrel_44 ad A C0 M hr hF (lv_sub hl [] rfl)
set_option maxHeartbeats 4000000 in
set_option maxRecDepth 100000 in
theorem tX10_doQuarrel (l : Launch) (D : va_G) (cy : Nat → ClassId) (ad : Nat → Nat) (A : Nat → Prop) {S : MS} {a0 : Nat} {a1 : Int32} {a2 : Int32} {r : Int32} (h : fX10_doQuarrel S a0 a1 a2 = some r) : Met l yX10_doQuarrel [Cond.code yX10_doQuarrel cX10_doQuarrel 3 (some .boolean)] rmX10_doQuarrel (PcR D cy ad A S [.ref (ad a0), .int a1, .int a2]) (QcS (some (.int r))) 0 0 (fun _ => False) := by
  refine met_R (by decide +kernel) cw_X10_doQuarrel (Nat.le_of_ble_eq_true rfl) ?_
  intro p e s m args below meth c ls C0 M hr hl
  have hl : lv_has ls 3 [(0, .ref (ad a0)), (1, .int a1), (2, .int a2)] := hl
  exact wX10_doQuarrel_0 ad A C0 M hr h hl
set_option maxHeartbeats 4000000 in
set_option maxRecDepth 100000 in
theorem wX10_isQuiet_0 {p : Program} {l : Launch} {e : Env} {s : State} {m : MethodId} {args : Array Value} {below : List Frame} {meth : Method} {c : Code} {D : va_G} {cy : Nat → ClassId} (ad : Nat → Nat) (A : Nat → Prop) {S : MS} {r : Int32} {out : ((Nat × Int32 × Int32 × Int32) ⊕ Int32)} {ls : Array Slot} {x0 : Nat} {x1 : Int32} (C0 : CX p s m args meth c RX10 cX10_isQuiet 4 D cy) (M : MW D cy ad A S s.heap) (hr : meth.sig.returnType = some .boolean) (hF : bX10_isQuiet_0 S x0 x1 = some out) (hl : lv_has ls 4 [(0, .ref (ad x0)), (1, .int x1)]) (Kr : ∀ r9, out = .inr r9 → r9 = r) (Kh0 : ∀ (y0 : Nat) (y1 : Int32) (y2 : Int32) (y3 : Int32), out = .inl (y0, y1, y2, y3) → ∀ (ls1 : Array Slot), lv_has ls1 4 [(0, .ref (ad y0)), (1, .int y1), (2, .int y2), (3, .int y3)] → W p l e rmX10_isQuiet s m args below meth c s.heap [] 0 0 (MQ below (QcS (some (.int r))) args s 0 0 (fun _ => False)) (F0 m 4 ls1 [])) : W p l e rmX10_isQuiet s m args below meth c s.heap [] 0 0 (MQ below (QcS (some (.int r))) args s 0 0 (fun _ => False)) (F0 m 0 ls []) := by
  unfold bX10_isQuiet_0 at hF
  obtain ⟨hx, hb, -, hown, -, hts, -⟩ := id C0
  refine lv_iconst (v := (1 : Int32)) hx hb dX10_isQuiet_0 (by decide) ?_
  refine lv_istore_n (lv' := [(2, .int (1 : Int32)), (0, .ref (ad x0)), (1, .int x1)]) hx hb dX10_isQuiet_1 rfl hl (by decide) rfl (fun ls hl => ?_)
  refine lv_iconst (v := (0 : Int32)) hx hb dX10_isQuiet_2 (by decide) ?_
  refine lv_istore_n (lv' := [(3, .int (0 : Int32)), (2, .int (1 : Int32)), (0, .ref (ad x0)), (1, .int x1)]) hx hb dX10_isQuiet_3 rfl hl (by decide) rfl (fun ls hl => ?_)
  exact Kh0 _ _ _ _ (Option.some.inj hF).symm _ (lv_sub hl [2, 3, 1, 0] rfl)
set_option maxHeartbeats 4000000 in
set_option maxRecDepth 100000 in
theorem wX10_isQuiet_40 {p : Program} {l : Launch} {e : Env} {s : State} {m : MethodId} {args : Array Value} {below : List Frame} {meth : Method} {c : Code} {D : va_G} {cy : Nat → ClassId} (ad : Nat → Nat) (A : Nat → Prop) {S : MS} {r : Int32} {out : ((Nat × Int32 × Int32 × Int32) ⊕ Int32)} {ls : Array Slot} {x0 : Nat} {x1 : Int32} {x3 : Int32} {z0 : Int32} (C0 : CX p s m args meth c RX10 cX10_isQuiet 4 D cy) (M : MW D cy ad A S s.heap) (hr : meth.sig.returnType = some .boolean) (hF : bX10_isQuiet_40 S x0 x1 x3 z0 = some out) (hl : lv_has ls 4 [(0, .ref (ad x0)), (1, .int x1), (3, .int x3)]) (Kr : ∀ r9, out = .inr r9 → r9 = r) (Kh0 : ∀ (y0 : Nat) (y1 : Int32) (y2 : Int32) (y3 : Int32), out = .inl (y0, y1, y2, y3) → ∀ (ls1 : Array Slot), lv_has ls1 4 [(0, .ref (ad y0)), (1, .int y1), (2, .int y2), (3, .int y3)] → W p l e rmX10_isQuiet s m args below meth c s.heap [] 0 0 (MQ below (QcS (some (.int r))) args s 0 0 (fun _ => False)) (F0 m 4 ls1 [])) : W p l e rmX10_isQuiet s m args below meth c s.heap [] 0 0 (MQ below (QcS (some (.int r))) args s 0 0 (fun _ => False)) (F0 m 40 ls [.int z0]) := by
  unfold bX10_isQuiet_40 at hF
  obtain ⟨hx, hb, -, hown, -, hts, -⟩ := id C0
  refine lv_istore_n (lv' := [(2, .int z0), (0, .ref (ad x0)), (1, .int x1), (3, .int x3)]) hx hb dX10_isQuiet_40 rfl hl (by decide) rfl (fun ls hl => ?_)
  obtain ⟨v41, hv, hF⟩ := ob hF
  refine lv_iinc (v := v41) (lv' := [(3, .int v41), (2, .int z0), (0, .ref (ad x0)), (1, .int x1)]) hx hb dX10_isQuiet_41 hl (k := 3) rfl (by rw [← vtI hv]; rfl) (by decide) rfl (fun ls hl => ?_)
  refine lv_goto (tgt := 4) hx hb dX10_isQuiet_44 (by decide) ?_
  exact Kh0 _ _ _ _ (Option.some.inj hF).symm _ (lv_sub hl [2, 3, 1, 0] rfl)
set_option maxHeartbeats 4000000 in
set_option maxRecDepth 100000 in
theorem wX10_isQuiet_35 {p : Program} {l : Launch} {e : Env} {s : State} {m : MethodId} {args : Array Value} {below : List Frame} {meth : Method} {c : Code} {D : va_G} {cy : Nat → ClassId} (ad : Nat → Nat) (A : Nat → Prop) {S : MS} {r : Int32} {out : ((Nat × Int32 × Int32 × Int32) ⊕ Int32)} {ls : Array Slot} {x0 : Nat} {x1 : Int32} {x3 : Int32} (C0 : CX p s m args meth c RX10 cX10_isQuiet 4 D cy) (M : MW D cy ad A S s.heap) (hr : meth.sig.returnType = some .boolean) (hF : bX10_isQuiet_35 S x0 x1 x3 = some out) (hl : lv_has ls 4 [(0, .ref (ad x0)), (1, .int x1), (3, .int x3)]) (Kr : ∀ r9, out = .inr r9 → r9 = r) (Kh0 : ∀ (y0 : Nat) (y1 : Int32) (y2 : Int32) (y3 : Int32), out = .inl (y0, y1, y2, y3) → ∀ (ls1 : Array Slot), lv_has ls1 4 [(0, .ref (ad y0)), (1, .int y1), (2, .int y2), (3, .int y3)] → W p l e rmX10_isQuiet s m args below meth c s.heap [] 0 0 (MQ below (QcS (some (.int r))) args s 0 0 (fun _ => False)) (F0 m 4 ls1 [])) : W p l e rmX10_isQuiet s m args below meth c s.heap [] 0 0 (MQ below (QcS (some (.int r))) args s 0 0 (fun _ => False)) (F0 m 35 ls []) := by
  unfold bX10_isQuiet_35 at hF
  obtain ⟨hx, hb, -, hown, -, hts, -⟩ := id C0
  refine lv_iconst (v := (1 : Int32)) hx hb dX10_isQuiet_35 (by decide) ?_
  refine lv_goto (tgt := 40) hx hb dX10_isQuiet_36 (by decide) ?_
  exact wX10_isQuiet_40 ad A C0 M hr hF (lv_sub hl [0, 1, 2] rfl) Kr Kh0
set_option maxHeartbeats 4000000 in
set_option maxRecDepth 100000 in
theorem wX10_isQuiet_39 {p : Program} {l : Launch} {e : Env} {s : State} {m : MethodId} {args : Array Value} {below : List Frame} {meth : Method} {c : Code} {D : va_G} {cy : Nat → ClassId} (ad : Nat → Nat) (A : Nat → Prop) {S : MS} {r : Int32} {out : ((Nat × Int32 × Int32 × Int32) ⊕ Int32)} {ls : Array Slot} {x0 : Nat} {x1 : Int32} {x3 : Int32} (C0 : CX p s m args meth c RX10 cX10_isQuiet 4 D cy) (M : MW D cy ad A S s.heap) (hr : meth.sig.returnType = some .boolean) (hF : bX10_isQuiet_39 S x0 x1 x3 = some out) (hl : lv_has ls 4 [(0, .ref (ad x0)), (1, .int x1), (3, .int x3)]) (Kr : ∀ r9, out = .inr r9 → r9 = r) (Kh0 : ∀ (y0 : Nat) (y1 : Int32) (y2 : Int32) (y3 : Int32), out = .inl (y0, y1, y2, y3) → ∀ (ls1 : Array Slot), lv_has ls1 4 [(0, .ref (ad y0)), (1, .int y1), (2, .int y2), (3, .int y3)] → W p l e rmX10_isQuiet s m args below meth c s.heap [] 0 0 (MQ below (QcS (some (.int r))) args s 0 0 (fun _ => False)) (F0 m 4 ls1 [])) : W p l e rmX10_isQuiet s m args below meth c s.heap [] 0 0 (MQ below (QcS (some (.int r))) args s 0 0 (fun _ => False)) (F0 m 39 ls []) := by
  unfold bX10_isQuiet_39 at hF
  obtain ⟨hx, hb, -, hown, -, hts, -⟩ := id C0
  refine lv_iconst (v := (0 : Int32)) hx hb dX10_isQuiet_39 (by decide) ?_
  exact wX10_isQuiet_40 ad A C0 M hr hF (lv_sub hl [0, 1, 2] rfl) Kr Kh0
set_option maxHeartbeats 4000000 in
set_option maxRecDepth 100000 in
theorem wX10_isQuiet_4 {p : Program} {l : Launch} {e : Env} {s : State} {m : MethodId} {args : Array Value} {below : List Frame} {meth : Method} {c : Code} {D : va_G} {cy : Nat → ClassId} (ad : Nat → Nat) (A : Nat → Prop) {S : MS} {r : Int32} {out : ((Nat × Int32 × Int32 × Int32) ⊕ Int32)} {ls : Array Slot} {x0 : Nat} {x1 : Int32} {x2 : Int32} {x3 : Int32} (C0 : CX p s m args meth c RX10 cX10_isQuiet 4 D cy) (M : MW D cy ad A S s.heap) (hr : meth.sig.returnType = some .boolean) (hF : bX10_isQuiet_4 S x0 x1 x2 x3 = some out) (hl : lv_has ls 4 [(0, .ref (ad x0)), (1, .int x1), (2, .int x2), (3, .int x3)]) (Kr : ∀ r9, out = .inr r9 → r9 = r) (Kh0 : ∀ (y0 : Nat) (y1 : Int32) (y2 : Int32) (y3 : Int32), out = .inl (y0, y1, y2, y3) → ∀ (ls1 : Array Slot), lv_has ls1 4 [(0, .ref (ad y0)), (1, .int y1), (2, .int y2), (3, .int y3)] → W p l e rmX10_isQuiet s m args below meth c s.heap [] 0 0 (MQ below (QcS (some (.int r))) args s 0 0 (fun _ => False)) (F0 m 4 ls1 [])) : W p l e rmX10_isQuiet s m args below meth c s.heap [] 0 0 (MQ below (QcS (some (.int r))) args s 0 0 (fun _ => False)) (F0 m 4 ls []) := by
  unfold bX10_isQuiet_4 at hF
  obtain ⟨hx, hb, -, hown, -, hts, -⟩ := id C0
  refine lv_iload_n hx hb dX10_isQuiet_4 rfl (lv_at hl 3 rfl) ?_
  refine lv_aload_n hx hb dX10_isQuiet_5 rfl (lv_at hl 0 rfl) ?_
  obtain ⟨v6, hv, hF⟩ := ob hF
  refine k_getI C0 M hv fl_X10_153 dX10_isQuiet_6 ?_
  refine lv_icmp_ge (tgt := 47) hx hb dX10_isQuiet_9 (by decide) (fun hc => ?_) (fun hc => ?_)
  · have hF := oi_t hc hF
    refine lv_iload_n hx hb dX10_isQuiet_47 rfl (lv_at hl 2 rfl) ?_
    obtain ⟨z48, hz, hF⟩ := ob hF
    have hz2 := (o_if hz).2
    refine vtopi hz2 ?_
    rw [hz2] at hz
    obtain rfl := (Kr _ (Option.some.inj hF).symm)
    exact rt_SZ C0 hr hz dX10_isQuiet_48
  · have hF := oi_f hc hF
    refine lv_iload_n hx hb dX10_isQuiet_12 rfl (lv_at hl 2 rfl) ?_
    refine lv_if_eq (tgt := 39) hx hb dX10_isQuiet_13 (by decide) (fun hc => ?_) (fun hc => ?_)
    · have hF := oi_t hc hF
      exact wX10_isQuiet_39 ad A C0 M hr hF (lv_sub hl [0, 1, 3] rfl) Kr Kh0
    · have hF := oi_f hc hF
      refine lv_iload_n hx hb dX10_isQuiet_16 rfl (lv_at hl 1 rfl) ?_
      refine lv_iload_n hx hb dX10_isQuiet_17 rfl (lv_at hl 3 rfl) ?_
      obtain ⟨v18, hcl, hF⟩ := ob hF
      refine go_SI (r_S (rest := []) (As := [.int x1, .int x3]) C0 cb_X10_245 (tX10_hasBit l D cy ad hcl) (pre_S C0) hl dX10_isQuiet_18 rfl (Nat.le_of_ble_eq_true rfl) ⟨rfl, rfl⟩ ⟨Nat.le_of_ble_eq_true rfl, Nat.le_of_ble_eq_true rfl⟩ ⟨Nat.le_of_ble_eq_true rfl, Nat.le_of_ble_eq_true rfl⟩ rfl) ?_
      refine lv_if_eq (tgt := 35) hx hb dX10_isQuiet_21 (by decide) (fun hc => ?_) (fun hc => ?_)
      · have hF := oi_t hc hF
        exact wX10_isQuiet_35 ad A C0 M hr hF (lv_sub hl [0, 1, 3] rfl) Kr Kh0
      · have hF := oi_f hc hF
        refine lv_aload_n hx hb dX10_isQuiet_24 rfl (lv_at hl 0 rfl) ?_
        obtain ⟨v25, hv, hF⟩ := ob hF
        refine k_getP C0 M hv fl_X10_58 dX10_isQuiet_25 ?_
        refine lv_iload_n hx hb dX10_isQuiet_28 rfl (lv_at hl 3 rfl) ?_
        obtain ⟨v29, hv, hF⟩ := ob hF
        refine k_ld C0 M hv dX10_isQuiet_29 ?_
        refine lv_iload_n hx hb dX10_isQuiet_30 rfl (lv_at hl 1 rfl) ?_
        refine lv_iand hx hb dX10_isQuiet_31 ?_
        refine lv_if_ne (tgt := 39) hx hb dX10_isQuiet_32 (by decide) (fun hc => ?_) (fun hc => ?_)
        · have hF := oi_f hc hF
          exact wX10_isQuiet_39 ad A C0 M hr hF (lv_sub hl [0, 1, 3] rfl) Kr Kh0
        · have hF := oi_t hc hF
          exact wX10_isQuiet_35 ad A C0 M hr hF (lv_sub hl [0, 1, 3] rfl) Kr Kh0
set_option maxHeartbeats 4000000 in
set_option maxRecDepth 100000 in
theorem tX10_isQuiet (l : Launch) (D : va_G) (cy : Nat → ClassId) (ad : Nat → Nat) (A : Nat → Prop) {S : MS} {a0 : Nat} {a1 : Int32} {r : Int32} (h : fX10_isQuiet S a0 a1 = some r) : Met l yX10_isQuiet [Cond.code yX10_isQuiet cX10_isQuiet 4 (some .boolean)] rmX10_isQuiet (PcR D cy ad A S [.ref (ad a0), .int a1]) (QcS (some (.int r))) 0 0 (fun _ => False) := by
  refine met_R (by decide +kernel) cw_X10_isQuiet (Nat.le_of_ble_eq_true rfl) ?_
  intro p e s m args below meth c ls C0 M hr hl
  have hl : lv_has ls 4 [(0, .ref (ad a0)), (1, .int a1)] := hl
  have key := lim_walk (step := sX10_isQuiet S) (fun (q : (Nat × Int32 × Int32 × Int32)) (r9 : Int32) => ∀ (r : Int32), r9 = r → ((∀ (y0 : Nat) (y1 : Int32) (y2 : Int32) (y3 : Int32), q = (y0, y1, y2, y3) → ∀ (ls1 : Array Slot), lv_has ls1 4 [(0, .ref (ad y0)), (1, .int y1), (2, .int y2), (3, .int y3)] → W p l e rmX10_isQuiet s m args below meth c s.heap [] 0 0 (MQ below (QcS (some (.int r))) args s 0 0 (fun _ => False)) (F0 m 4 ls1 [])))) ?_
  · unfold fX10_isQuiet at h
    cases hs0 : bX10_isQuiet_0 S a0 a1 with
    | none => rw [hs0] at h; cases h
    | some out =>
      rw [hs0] at h
      refine wX10_isQuiet_0 ad A C0 M hr hs0 hl (fun r9 hr9 => ?_) ?_
      · subst hr9; exact Option.some.inj h
      · intro y0 y1 y2 y3 hq; subst hq; exact (key _ _ h _ rfl) _ _ _ _ rfl
  · intro q r9 out hst hre hin9
    intro r er; subst er
    refine ?_
    · intro y0 y1 y2 y3 hq ls1 hl
      subst hq
      exact wX10_isQuiet_4 ad A C0 M hr hst hl hre (fun k0 k1 k2 k3 hk => (hin9 _ hk _ rfl) _ _ _ _ rfl)
set_option maxHeartbeats 4000000 in
set_option maxRecDepth 100000 in
theorem wX10_findDoubted_0 {p : Program} {l : Launch} {e : Env} {s : State} {m : MethodId} {args : Array Value} {below : List Frame} {meth : Method} {c : Code} {D : va_G} {cy : Nat → ClassId} (ad : Nat → Nat) (A : Nat → Prop) {S : MS} {S' : MS} {H : Heap} {locs : List Loc} {n0 : Nat} {out : (((Nat × Int32 × Int32 × MS) ⊕ ((Nat × Int32 × Int32 × MS) ⊕ ((Nat × Int32 × Int32 × Int32 × MS) ⊕ (Nat × Int32 × Int32 × Int32 × MS)))) ⊕ MS)} {ls : Array Slot} {x0 : Nat} (C0 : CX p s m args meth c RX10 cX10_findDoubted 4 D cy) (M : ST D cy ad A s.heap (ZN n0 s.heap.size) S H locs) (hr : meth.sig.returnType = none) (hF : bX10_findDoubted_0 S x0 = some out) (hl : lv_has ls 4 [(0, .ref (ad x0))]) (Kr : ∀ r9, out = .inr r9 → r9 = S') (Kh0 : ∀ (y0 : Nat) (y1 : Int32) (y2 : Int32) (S2 : MS), out = .inl (.inl (y0, y1, y2, S2)) → ∀ (H1 : Heap) (locs1 : List Loc) (ls1 : Array Slot), ST D cy ad A s.heap (ZN n0 s.heap.size) S2 H1 locs1 → lv_has ls1 4 [(0, .ref (ad y0)), (1, .int y1), (2, .int y2)] → W p l e rmX10_findDoubted s m args below meth c H1 locs1 0 0 (MQ below (QcM D cy ad A n0 S' (none)) args s 0 0 A) (F0 m 4 ls1 [])) (Kh1 : ∀ (y0 : Nat) (y1 : Int32) (y2 : Int32) (S2 : MS), out = .inl (.inr (.inl (y0, y1, y2, S2))) → ∀ (H1 : Heap) (locs1 : List Loc) (ls1 : Array Slot), ST D cy ad A s.heap (ZN n0 s.heap.size) S2 H1 locs1 → lv_has ls1 4 [(0, .ref (ad y0)), (1, .int y1), (2, .int y2)] → W p l e rmX10_findDoubted s m args below meth c H1 locs1 0 0 (MQ below (QcM D cy ad A n0 S' (none)) args s 0 0 A) (F0 m 46 ls1 [])) (Kh2 : ∀ (y0 : Nat) (y1 : Int32) (y2 : Int32) (y3 : Int32) (S2 : MS), out = .inl (.inr (.inr (.inl (y0, y1, y2, y3, S2)))) → ∀ (H1 : Heap) (locs1 : List Loc) (ls1 : Array Slot), ST D cy ad A s.heap (ZN n0 s.heap.size) S2 H1 locs1 → lv_has ls1 4 [(0, .ref (ad y0)), (1, .int y1), (2, .int y2), (3, .int y3)] → W p l e rmX10_findDoubted s m args below meth c H1 locs1 0 0 (MQ below (QcM D cy ad A n0 S' (none)) args s 0 0 A) (F0 m 56 ls1 [])) (Kh3 : ∀ (y0 : Nat) (y1 : Int32) (y2 : Int32) (y3 : Int32) (S2 : MS), out = .inl (.inr (.inr (.inr (y0, y1, y2, y3, S2)))) → ∀ (H1 : Heap) (locs1 : List Loc) (ls1 : Array Slot), ST D cy ad A s.heap (ZN n0 s.heap.size) S2 H1 locs1 → lv_has ls1 4 [(0, .ref (ad y0)), (1, .int y1), (2, .int y2), (3, .int y3)] → W p l e rmX10_findDoubted s m args below meth c H1 locs1 0 0 (MQ below (QcM D cy ad A n0 S' (none)) args s 0 0 A) (F0 m 136 ls1 [])) : W p l e rmX10_findDoubted s m args below meth c H locs 0 0 (MQ below (QcM D cy ad A n0 S' (none)) args s 0 0 A) (F0 m 0 ls []) := by
  unfold bX10_findDoubted_0 at hF
  obtain ⟨hx, hb, -, hown, -, hts, -⟩ := id C0
  refine lv_iconst (v := (0 : Int32)) hx hb dX10_findDoubted_0 (by decide) ?_
  refine lv_istore_n (lv' := [(1, .int (0 : Int32)), (0, .ref (ad x0))]) hx hb dX10_findDoubted_1 rfl hl (by decide) rfl (fun ls hl => ?_)
  refine lv_iconst (v := (0 : Int32)) hx hb dX10_findDoubted_2 (by decide) ?_
  refine lv_istore_n (lv' := [(2, .int (0 : Int32)), (1, .int (0 : Int32)), (0, .ref (ad x0))]) hx hb dX10_findDoubted_3 rfl hl (by decide) rfl (fun ls hl => ?_)
  exact Kh0 _ _ _ _ (Option.some.inj hF).symm _ _ _ M (lv_sub hl [2, 1, 0] rfl)
set_option maxHeartbeats 4000000 in
set_option maxRecDepth 100000 in
theorem wX10_findDoubted_36 {p : Program} {l : Launch} {e : Env} {s : State} {m : MethodId} {args : Array Value} {below : List Frame} {meth : Method} {c : Code} {D : va_G} {cy : Nat → ClassId} (ad : Nat → Nat) (A : Nat → Prop) {S : MS} {S' : MS} {H : Heap} {locs : List Loc} {n0 : Nat} {out : (((Nat × Int32 × Int32 × MS) ⊕ ((Nat × Int32 × Int32 × MS) ⊕ ((Nat × Int32 × Int32 × Int32 × MS) ⊕ (Nat × Int32 × Int32 × Int32 × MS)))) ⊕ MS)} {ls : Array Slot} {x0 : Nat} {x2 : Int32} {z0 : Int32} {z1 : Int32} (C0 : CX p s m args meth c RX10 cX10_findDoubted 4 D cy) (M : ST D cy ad A s.heap (ZN n0 s.heap.size) S H locs) (hr : meth.sig.returnType = none) (hF : bX10_findDoubted_36 S x0 x2 z0 z1 = some out) (hl : lv_has ls 4 [(0, .ref (ad x0)), (2, .int x2)]) (Kr : ∀ r9, out = .inr r9 → r9 = S') (Kh0 : ∀ (y0 : Nat) (y1 : Int32) (y2 : Int32) (S2 : MS), out = .inl (.inl (y0, y1, y2, S2)) → ∀ (H1 : Heap) (locs1 : List Loc) (ls1 : Array Slot), ST D cy ad A s.heap (ZN n0 s.heap.size) S2 H1 locs1 → lv_has ls1 4 [(0, .ref (ad y0)), (1, .int y1), (2, .int y2)] → W p l e rmX10_findDoubted s m args below meth c H1 locs1 0 0 (MQ below (QcM D cy ad A n0 S' (none)) args s 0 0 A) (F0 m 4 ls1 [])) (Kh1 : ∀ (y0 : Nat) (y1 : Int32) (y2 : Int32) (S2 : MS), out = .inl (.inr (.inl (y0, y1, y2, S2))) → ∀ (H1 : Heap) (locs1 : List Loc) (ls1 : Array Slot), ST D cy ad A s.heap (ZN n0 s.heap.size) S2 H1 locs1 → lv_has ls1 4 [(0, .ref (ad y0)), (1, .int y1), (2, .int y2)] → W p l e rmX10_findDoubted s m args below meth c H1 locs1 0 0 (MQ below (QcM D cy ad A n0 S' (none)) args s 0 0 A) (F0 m 46 ls1 [])) (Kh2 : ∀ (y0 : Nat) (y1 : Int32) (y2 : Int32) (y3 : Int32) (S2 : MS), out = .inl (.inr (.inr (.inl (y0, y1, y2, y3, S2)))) → ∀ (H1 : Heap) (locs1 : List Loc) (ls1 : Array Slot), ST D cy ad A s.heap (ZN n0 s.heap.size) S2 H1 locs1 → lv_has ls1 4 [(0, .ref (ad y0)), (1, .int y1), (2, .int y2), (3, .int y3)] → W p l e rmX10_findDoubted s m args below meth c H1 locs1 0 0 (MQ below (QcM D cy ad A n0 S' (none)) args s 0 0 A) (F0 m 56 ls1 [])) (Kh3 : ∀ (y0 : Nat) (y1 : Int32) (y2 : Int32) (y3 : Int32) (S2 : MS), out = .inl (.inr (.inr (.inr (y0, y1, y2, y3, S2)))) → ∀ (H1 : Heap) (locs1 : List Loc) (ls1 : Array Slot), ST D cy ad A s.heap (ZN n0 s.heap.size) S2 H1 locs1 → lv_has ls1 4 [(0, .ref (ad y0)), (1, .int y1), (2, .int y2), (3, .int y3)] → W p l e rmX10_findDoubted s m args below meth c H1 locs1 0 0 (MQ below (QcM D cy ad A n0 S' (none)) args s 0 0 A) (F0 m 136 ls1 [])) : W p l e rmX10_findDoubted s m args below meth c H locs 0 0 (MQ below (QcM D cy ad A n0 S' (none)) args s 0 0 A) (F0 m 36 ls [.int z1, .int z0]) := by
  unfold bX10_findDoubted_36 at hF
  obtain ⟨hx, hb, -, hown, -, hts, -⟩ := id C0
  refine lv_ior hx hb dX10_findDoubted_36 ?_
  obtain ⟨v37, hv, hF⟩ := ob hF
  have hv := vtI hv
  refine vtopi hv ?_
  refine lv_istore_n (lv' := [(1, .int v37), (0, .ref (ad x0)), (2, .int x2)]) hx hb dX10_findDoubted_37 rfl hl (by decide) rfl (fun ls hl => ?_)
  obtain ⟨v38, hv, hF⟩ := ob hF
  refine lv_iinc (v := v38) (lv' := [(2, .int v38), (1, .int v37), (0, .ref (ad x0))]) hx hb dX10_findDoubted_38 hl (k := 2) rfl (by rw [← vtI hv]; rfl) (by decide) rfl (fun ls hl => ?_)
  refine lv_goto (tgt := 4) hx hb dX10_findDoubted_41 (by decide) ?_
  exact Kh0 _ _ _ _ (Option.some.inj hF).symm _ _ _ M (lv_sub hl [2, 1, 0] rfl)
set_option maxHeartbeats 4000000 in
set_option maxRecDepth 100000 in
theorem wX10_findDoubted_4 {p : Program} {l : Launch} {e : Env} {s : State} {m : MethodId} {args : Array Value} {below : List Frame} {meth : Method} {c : Code} {D : va_G} {cy : Nat → ClassId} (ad : Nat → Nat) (A : Nat → Prop) {S : MS} {S' : MS} {H : Heap} {locs : List Loc} {n0 : Nat} {out : (((Nat × Int32 × Int32 × MS) ⊕ ((Nat × Int32 × Int32 × MS) ⊕ ((Nat × Int32 × Int32 × Int32 × MS) ⊕ (Nat × Int32 × Int32 × Int32 × MS)))) ⊕ MS)} {ls : Array Slot} {x0 : Nat} {x1 : Int32} {x2 : Int32} (C0 : CX p s m args meth c RX10 cX10_findDoubted 4 D cy) (M : ST D cy ad A s.heap (ZN n0 s.heap.size) S H locs) (hr : meth.sig.returnType = none) (hF : bX10_findDoubted_4 S x0 x1 x2 = some out) (hl : lv_has ls 4 [(0, .ref (ad x0)), (1, .int x1), (2, .int x2)]) (Kr : ∀ r9, out = .inr r9 → r9 = S') (Kh0 : ∀ (y0 : Nat) (y1 : Int32) (y2 : Int32) (S2 : MS), out = .inl (.inl (y0, y1, y2, S2)) → ∀ (H1 : Heap) (locs1 : List Loc) (ls1 : Array Slot), ST D cy ad A s.heap (ZN n0 s.heap.size) S2 H1 locs1 → lv_has ls1 4 [(0, .ref (ad y0)), (1, .int y1), (2, .int y2)] → W p l e rmX10_findDoubted s m args below meth c H1 locs1 0 0 (MQ below (QcM D cy ad A n0 S' (none)) args s 0 0 A) (F0 m 4 ls1 [])) (Kh1 : ∀ (y0 : Nat) (y1 : Int32) (y2 : Int32) (S2 : MS), out = .inl (.inr (.inl (y0, y1, y2, S2))) → ∀ (H1 : Heap) (locs1 : List Loc) (ls1 : Array Slot), ST D cy ad A s.heap (ZN n0 s.heap.size) S2 H1 locs1 → lv_has ls1 4 [(0, .ref (ad y0)), (1, .int y1), (2, .int y2)] → W p l e rmX10_findDoubted s m args below meth c H1 locs1 0 0 (MQ below (QcM D cy ad A n0 S' (none)) args s 0 0 A) (F0 m 46 ls1 [])) (Kh2 : ∀ (y0 : Nat) (y1 : Int32) (y2 : Int32) (y3 : Int32) (S2 : MS), out = .inl (.inr (.inr (.inl (y0, y1, y2, y3, S2)))) → ∀ (H1 : Heap) (locs1 : List Loc) (ls1 : Array Slot), ST D cy ad A s.heap (ZN n0 s.heap.size) S2 H1 locs1 → lv_has ls1 4 [(0, .ref (ad y0)), (1, .int y1), (2, .int y2), (3, .int y3)] → W p l e rmX10_findDoubted s m args below meth c H1 locs1 0 0 (MQ below (QcM D cy ad A n0 S' (none)) args s 0 0 A) (F0 m 56 ls1 [])) (Kh3 : ∀ (y0 : Nat) (y1 : Int32) (y2 : Int32) (y3 : Int32) (S2 : MS), out = .inl (.inr (.inr (.inr (y0, y1, y2, y3, S2)))) → ∀ (H1 : Heap) (locs1 : List Loc) (ls1 : Array Slot), ST D cy ad A s.heap (ZN n0 s.heap.size) S2 H1 locs1 → lv_has ls1 4 [(0, .ref (ad y0)), (1, .int y1), (2, .int y2), (3, .int y3)] → W p l e rmX10_findDoubted s m args below meth c H1 locs1 0 0 (MQ below (QcM D cy ad A n0 S' (none)) args s 0 0 A) (F0 m 136 ls1 [])) : W p l e rmX10_findDoubted s m args below meth c H locs 0 0 (MQ below (QcM D cy ad A n0 S' (none)) args s 0 0 A) (F0 m 4 ls []) := by
  unfold bX10_findDoubted_4 at hF
  obtain ⟨hx, hb, -, hown, -, hts, -⟩ := id C0
  refine lv_iload_n hx hb dX10_findDoubted_4 rfl (lv_at hl 2 rfl) ?_
  refine lv_aload_n hx hb dX10_findDoubted_5 rfl (lv_at hl 0 rfl) ?_
  obtain ⟨v6, hv, hF⟩ := ob hF
  refine k_getI C0 M.1 hv fl_X10_153 dX10_findDoubted_6 ?_
  refine lv_icmp_ge (tgt := 44) hx hb dX10_findDoubted_9 (by decide) (fun hc => ?_) (fun hc => ?_)
  · have hF := oi_t hc hF
    refine lv_iconst (v := (0 : Int32)) hx hb dX10_findDoubted_44 (by decide) ?_
    refine lv_istore_n (lv' := [(2, .int (0 : Int32)), (0, .ref (ad x0)), (1, .int x1)]) hx hb dX10_findDoubted_45 rfl hl (by decide) rfl (fun ls hl => ?_)
    exact Kh1 _ _ _ _ (Option.some.inj hF).symm _ _ _ M (lv_sub hl [1, 2, 0] rfl)
  · have hF := oi_f hc hF
    refine lv_aload_n hx hb dX10_findDoubted_12 rfl (lv_at hl 0 rfl) ?_
    obtain ⟨v13, hv, hF⟩ := ob hF
    refine k_getP C0 M.1 hv fl_X10_58 dX10_findDoubted_13 ?_
    refine lv_iload_n hx hb dX10_findDoubted_16 rfl (lv_at hl 2 rfl) ?_
    refine lv_iconst (v := (0 : Int32)) hx hb dX10_findDoubted_17 (by decide) ?_
    obtain ⟨S18, hv, hF⟩ := ob hF
    refine k_st C0 M hv dX10_findDoubted_18 (fun H locs M => ?_)
    refine lv_iload_n hx hb dX10_findDoubted_19 rfl (lv_at hl 1 rfl) ?_
    refine lv_aload_n hx hb dX10_findDoubted_20 rfl (lv_at hl 0 rfl) ?_
    obtain ⟨v21, hv, hF⟩ := ob hF
    refine k_getP C0 M.1 hv fl_X10_46 dX10_findDoubted_21 ?_
    refine lv_iload_n hx hb dX10_findDoubted_24 rfl (lv_at hl 2 rfl) ?_
    obtain ⟨v25, hv, hF⟩ := ob hF
    refine k_ld C0 M.1 hv dX10_findDoubted_25 ?_
    refine lv_if_lt (tgt := 35) hx hb dX10_findDoubted_26 (by decide) (fun hc => ?_) (fun hc => ?_)
    · have hF := oi_t hc hF
      refine lv_iconst (v := (0 : Int32)) hx hb dX10_findDoubted_35 (by decide) ?_
      exact wX10_findDoubted_36 ad A C0 M hr hF (lv_sub hl [0, 2] rfl) Kr Kh0 Kh1 Kh2 Kh3
    · have hF := oi_f hc hF
      refine lv_iconst (v := (1 : Int32)) hx hb dX10_findDoubted_29 (by decide) ?_
      refine lv_iload_n hx hb dX10_findDoubted_30 rfl (lv_at hl 2 rfl) ?_
      refine lv_ishl hx hb dX10_findDoubted_31 ?_
      refine lv_goto (tgt := 36) hx hb dX10_findDoubted_32 (by decide) ?_
      exact wX10_findDoubted_36 ad A C0 M hr hF (lv_sub hl [0, 2] rfl) Kr Kh0 Kh1 Kh2 Kh3
set_option maxHeartbeats 4000000 in
set_option maxRecDepth 100000 in
theorem wX10_findDoubted_46 {p : Program} {l : Launch} {e : Env} {s : State} {m : MethodId} {args : Array Value} {below : List Frame} {meth : Method} {c : Code} {D : va_G} {cy : Nat → ClassId} (ad : Nat → Nat) (A : Nat → Prop) {S : MS} {S' : MS} {H : Heap} {locs : List Loc} {n0 : Nat} {out : (((Nat × Int32 × Int32 × MS) ⊕ ((Nat × Int32 × Int32 × MS) ⊕ ((Nat × Int32 × Int32 × Int32 × MS) ⊕ (Nat × Int32 × Int32 × Int32 × MS)))) ⊕ MS)} {ls : Array Slot} {x0 : Nat} {x1 : Int32} {x2 : Int32} (C0 : CX p s m args meth c RX10 cX10_findDoubted 4 D cy) (M : ST D cy ad A s.heap (ZN n0 s.heap.size) S H locs) (hr : meth.sig.returnType = none) (hF : bX10_findDoubted_46 S x0 x1 x2 = some out) (hl : lv_has ls 4 [(0, .ref (ad x0)), (1, .int x1), (2, .int x2)]) (Kr : ∀ r9, out = .inr r9 → r9 = S') (Kh0 : ∀ (y0 : Nat) (y1 : Int32) (y2 : Int32) (S2 : MS), out = .inl (.inl (y0, y1, y2, S2)) → ∀ (H1 : Heap) (locs1 : List Loc) (ls1 : Array Slot), ST D cy ad A s.heap (ZN n0 s.heap.size) S2 H1 locs1 → lv_has ls1 4 [(0, .ref (ad y0)), (1, .int y1), (2, .int y2)] → W p l e rmX10_findDoubted s m args below meth c H1 locs1 0 0 (MQ below (QcM D cy ad A n0 S' (none)) args s 0 0 A) (F0 m 4 ls1 [])) (Kh1 : ∀ (y0 : Nat) (y1 : Int32) (y2 : Int32) (S2 : MS), out = .inl (.inr (.inl (y0, y1, y2, S2))) → ∀ (H1 : Heap) (locs1 : List Loc) (ls1 : Array Slot), ST D cy ad A s.heap (ZN n0 s.heap.size) S2 H1 locs1 → lv_has ls1 4 [(0, .ref (ad y0)), (1, .int y1), (2, .int y2)] → W p l e rmX10_findDoubted s m args below meth c H1 locs1 0 0 (MQ below (QcM D cy ad A n0 S' (none)) args s 0 0 A) (F0 m 46 ls1 [])) (Kh2 : ∀ (y0 : Nat) (y1 : Int32) (y2 : Int32) (y3 : Int32) (S2 : MS), out = .inl (.inr (.inr (.inl (y0, y1, y2, y3, S2)))) → ∀ (H1 : Heap) (locs1 : List Loc) (ls1 : Array Slot), ST D cy ad A s.heap (ZN n0 s.heap.size) S2 H1 locs1 → lv_has ls1 4 [(0, .ref (ad y0)), (1, .int y1), (2, .int y2), (3, .int y3)] → W p l e rmX10_findDoubted s m args below meth c H1 locs1 0 0 (MQ below (QcM D cy ad A n0 S' (none)) args s 0 0 A) (F0 m 56 ls1 [])) (Kh3 : ∀ (y0 : Nat) (y1 : Int32) (y2 : Int32) (y3 : Int32) (S2 : MS), out = .inl (.inr (.inr (.inr (y0, y1, y2, y3, S2)))) → ∀ (H1 : Heap) (locs1 : List Loc) (ls1 : Array Slot), ST D cy ad A s.heap (ZN n0 s.heap.size) S2 H1 locs1 → lv_has ls1 4 [(0, .ref (ad y0)), (1, .int y1), (2, .int y2), (3, .int y3)] → W p l e rmX10_findDoubted s m args below meth c H1 locs1 0 0 (MQ below (QcM D cy ad A n0 S' (none)) args s 0 0 A) (F0 m 136 ls1 [])) : W p l e rmX10_findDoubted s m args below meth c H locs 0 0 (MQ below (QcM D cy ad A n0 S' (none)) args s 0 0 A) (F0 m 46 ls []) := by
  unfold bX10_findDoubted_46 at hF
  obtain ⟨hx, hb, -, hown, -, hts, -⟩ := id C0
  refine lv_iload_n hx hb dX10_findDoubted_46 rfl (lv_at hl 2 rfl) ?_
  refine lv_aload_n hx hb dX10_findDoubted_47 rfl (lv_at hl 0 rfl) ?_
  obtain ⟨v48, hv, hF⟩ := ob hF
  refine k_getI C0 M.1 hv fl_X10_153 dX10_findDoubted_48 ?_
  refine lv_icmp_ge (tgt := 124) hx hb dX10_findDoubted_51 (by decide) (fun hc => ?_) (fun hc => ?_)
  · have hF := oi_t hc hF
    refine lv_aload_n hx hb dX10_findDoubted_124 rfl (lv_at hl 0 rfl) ?_
    refine lv_iload_n hx hb dX10_findDoubted_125 rfl (lv_at hl 1 rfl) ?_
    obtain ⟨S126, hv, hF⟩ := ob hF
    refine k_sI C0 M hv fl_X10_263 dX10_findDoubted_126 (fun H locs M => ?_)
    refine lv_iload_n hx hb dX10_findDoubted_129 rfl (lv_at hl 1 rfl) ?_
    obtain ⟨v130, hcl, hF⟩ := ob hF
    refine go_SI (r_S (rest := []) (As := [.int x1]) C0 cb_X10_266 (tX10_count l D cy ad hcl) (pre_S C0) hl dX10_findDoubted_130 rfl (Nat.le_of_ble_eq_true rfl) ⟨rfl, rfl⟩ ⟨Nat.le_of_ble_eq_true rfl, Nat.le_of_ble_eq_true rfl⟩ ⟨Nat.le_of_ble_eq_true rfl, Nat.le_of_ble_eq_true rfl⟩ rfl) ?_
    refine lv_istore_n (lv' := [(2, .int v130), (0, .ref (ad x0)), (1, .int x1)]) hx hb dX10_findDoubted_133 rfl hl (by decide) rfl (fun ls hl => ?_)
    refine lv_iconst (v := (0 : Int32)) hx hb dX10_findDoubted_134 (by decide) ?_
    refine lv_istore_n (lv' := [(3, .int (0 : Int32)), (2, .int v130), (0, .ref (ad x0)), (1, .int x1)]) hx hb dX10_findDoubted_135 rfl hl (by decide) rfl (fun ls hl => ?_)
    exact Kh3 _ _ _ _ _ (Option.some.inj hF).symm _ _ _ M (lv_sub hl [2, 3, 1, 0] rfl)
  · have hF := oi_f hc hF
    refine lv_iconst (v := (0 : Int32)) hx hb dX10_findDoubted_54 (by decide) ?_
    refine lv_istore_n (lv' := [(3, .int (0 : Int32)), (0, .ref (ad x0)), (1, .int x1), (2, .int x2)]) hx hb dX10_findDoubted_55 rfl hl (by decide) rfl (fun ls hl => ?_)
    exact Kh2 _ _ _ _ _ (Option.some.inj hF).symm _ _ _ M (lv_sub hl [1, 2, 3, 0] rfl)
set_option maxHeartbeats 4000000 in
set_option maxRecDepth 100000 in
theorem wX10_findDoubted_110 {p : Program} {l : Launch} {e : Env} {s : State} {m : MethodId} {args : Array Value} {below : List Frame} {meth : Method} {c : Code} {D : va_G} {cy : Nat → ClassId} (ad : Nat → Nat) (A : Nat → Prop) {S : MS} {S' : MS} {H : Heap} {locs : List Loc} {n0 : Nat} {out : (((Nat × Int32 × Int32 × MS) ⊕ ((Nat × Int32 × Int32 × MS) ⊕ ((Nat × Int32 × Int32 × Int32 × MS) ⊕ (Nat × Int32 × Int32 × Int32 × MS)))) ⊕ MS)} {ls : Array Slot} {x0 : Nat} {x1 : Int32} {x2 : Int32} {x3 : Int32} {z0 : Nat} {z1 : Int32} {z2 : Int32} {z3 : Int32} (C0 : CX p s m args meth c RX10 cX10_findDoubted 4 D cy) (M : ST D cy ad A s.heap (ZN n0 s.heap.size) S H locs) (hr : meth.sig.returnType = none) (hF : bX10_findDoubted_110 S x0 x1 x2 x3 z0 z1 z2 z3 = some out) (hl : lv_has ls 4 [(0, .ref (ad x0)), (1, .int x1), (2, .int x2), (3, .int x3)]) (Kr : ∀ r9, out = .inr r9 → r9 = S') (Kh0 : ∀ (y0 : Nat) (y1 : Int32) (y2 : Int32) (S2 : MS), out = .inl (.inl (y0, y1, y2, S2)) → ∀ (H1 : Heap) (locs1 : List Loc) (ls1 : Array Slot), ST D cy ad A s.heap (ZN n0 s.heap.size) S2 H1 locs1 → lv_has ls1 4 [(0, .ref (ad y0)), (1, .int y1), (2, .int y2)] → W p l e rmX10_findDoubted s m args below meth c H1 locs1 0 0 (MQ below (QcM D cy ad A n0 S' (none)) args s 0 0 A) (F0 m 4 ls1 [])) (Kh1 : ∀ (y0 : Nat) (y1 : Int32) (y2 : Int32) (S2 : MS), out = .inl (.inr (.inl (y0, y1, y2, S2))) → ∀ (H1 : Heap) (locs1 : List Loc) (ls1 : Array Slot), ST D cy ad A s.heap (ZN n0 s.heap.size) S2 H1 locs1 → lv_has ls1 4 [(0, .ref (ad y0)), (1, .int y1), (2, .int y2)] → W p l e rmX10_findDoubted s m args below meth c H1 locs1 0 0 (MQ below (QcM D cy ad A n0 S' (none)) args s 0 0 A) (F0 m 46 ls1 [])) (Kh2 : ∀ (y0 : Nat) (y1 : Int32) (y2 : Int32) (y3 : Int32) (S2 : MS), out = .inl (.inr (.inr (.inl (y0, y1, y2, y3, S2)))) → ∀ (H1 : Heap) (locs1 : List Loc) (ls1 : Array Slot), ST D cy ad A s.heap (ZN n0 s.heap.size) S2 H1 locs1 → lv_has ls1 4 [(0, .ref (ad y0)), (1, .int y1), (2, .int y2), (3, .int y3)] → W p l e rmX10_findDoubted s m args below meth c H1 locs1 0 0 (MQ below (QcM D cy ad A n0 S' (none)) args s 0 0 A) (F0 m 56 ls1 [])) (Kh3 : ∀ (y0 : Nat) (y1 : Int32) (y2 : Int32) (y3 : Int32) (S2 : MS), out = .inl (.inr (.inr (.inr (y0, y1, y2, y3, S2)))) → ∀ (H1 : Heap) (locs1 : List Loc) (ls1 : Array Slot), ST D cy ad A s.heap (ZN n0 s.heap.size) S2 H1 locs1 → lv_has ls1 4 [(0, .ref (ad y0)), (1, .int y1), (2, .int y2), (3, .int y3)] → W p l e rmX10_findDoubted s m args below meth c H1 locs1 0 0 (MQ below (QcM D cy ad A n0 S' (none)) args s 0 0 A) (F0 m 136 ls1 [])) : W p l e rmX10_findDoubted s m args below meth c H locs 0 0 (MQ below (QcM D cy ad A n0 S' (none)) args s 0 0 A) (F0 m 110 ls [.int z3, .int z2, .int z1, .ref (ad z0)]) := by
  unfold bX10_findDoubted_110 at hF
  obtain ⟨hx, hb, -, hown, -, hts, -⟩ := id C0
  refine lv_ior hx hb dX10_findDoubted_110 ?_
  obtain ⟨S111, hv, hF⟩ := ob hF
  refine k_st C0 M hv dX10_findDoubted_111 (fun H locs M => ?_)
  obtain ⟨v112, hv, hF⟩ := ob hF
  refine lv_iinc (v := v112) (lv' := [(3, .int v112), (0, .ref (ad x0)), (1, .int x1), (2, .int x2)]) hx hb dX10_findDoubted_112 hl (k := 3) rfl (by rw [← vtI hv]; rfl) (by decide) rfl (fun ls hl => ?_)
  refine lv_goto (tgt := 56) hx hb dX10_findDoubted_115 (by decide) ?_
  exact Kh2 _ _ _ _ _ (Option.some.inj hF).symm _ _ _ M (lv_sub hl [1, 2, 3, 0] rfl)
set_option maxHeartbeats 4000000 in
set_option maxRecDepth 100000 in
theorem wX10_findDoubted_109 {p : Program} {l : Launch} {e : Env} {s : State} {m : MethodId} {args : Array Value} {below : List Frame} {meth : Method} {c : Code} {D : va_G} {cy : Nat → ClassId} (ad : Nat → Nat) (A : Nat → Prop) {S : MS} {S' : MS} {H : Heap} {locs : List Loc} {n0 : Nat} {out : (((Nat × Int32 × Int32 × MS) ⊕ ((Nat × Int32 × Int32 × MS) ⊕ ((Nat × Int32 × Int32 × Int32 × MS) ⊕ (Nat × Int32 × Int32 × Int32 × MS)))) ⊕ MS)} {ls : Array Slot} {x0 : Nat} {x1 : Int32} {x2 : Int32} {x3 : Int32} {z0 : Nat} {z1 : Int32} {z2 : Int32} (C0 : CX p s m args meth c RX10 cX10_findDoubted 4 D cy) (M : ST D cy ad A s.heap (ZN n0 s.heap.size) S H locs) (hr : meth.sig.returnType = none) (hF : bX10_findDoubted_109 S x0 x1 x2 x3 z0 z1 z2 = some out) (hl : lv_has ls 4 [(0, .ref (ad x0)), (1, .int x1), (2, .int x2), (3, .int x3)]) (Kr : ∀ r9, out = .inr r9 → r9 = S') (Kh0 : ∀ (y0 : Nat) (y1 : Int32) (y2 : Int32) (S2 : MS), out = .inl (.inl (y0, y1, y2, S2)) → ∀ (H1 : Heap) (locs1 : List Loc) (ls1 : Array Slot), ST D cy ad A s.heap (ZN n0 s.heap.size) S2 H1 locs1 → lv_has ls1 4 [(0, .ref (ad y0)), (1, .int y1), (2, .int y2)] → W p l e rmX10_findDoubted s m args below meth c H1 locs1 0 0 (MQ below (QcM D cy ad A n0 S' (none)) args s 0 0 A) (F0 m 4 ls1 [])) (Kh1 : ∀ (y0 : Nat) (y1 : Int32) (y2 : Int32) (S2 : MS), out = .inl (.inr (.inl (y0, y1, y2, S2))) → ∀ (H1 : Heap) (locs1 : List Loc) (ls1 : Array Slot), ST D cy ad A s.heap (ZN n0 s.heap.size) S2 H1 locs1 → lv_has ls1 4 [(0, .ref (ad y0)), (1, .int y1), (2, .int y2)] → W p l e rmX10_findDoubted s m args below meth c H1 locs1 0 0 (MQ below (QcM D cy ad A n0 S' (none)) args s 0 0 A) (F0 m 46 ls1 [])) (Kh2 : ∀ (y0 : Nat) (y1 : Int32) (y2 : Int32) (y3 : Int32) (S2 : MS), out = .inl (.inr (.inr (.inl (y0, y1, y2, y3, S2)))) → ∀ (H1 : Heap) (locs1 : List Loc) (ls1 : Array Slot), ST D cy ad A s.heap (ZN n0 s.heap.size) S2 H1 locs1 → lv_has ls1 4 [(0, .ref (ad y0)), (1, .int y1), (2, .int y2), (3, .int y3)] → W p l e rmX10_findDoubted s m args below meth c H1 locs1 0 0 (MQ below (QcM D cy ad A n0 S' (none)) args s 0 0 A) (F0 m 56 ls1 [])) (Kh3 : ∀ (y0 : Nat) (y1 : Int32) (y2 : Int32) (y3 : Int32) (S2 : MS), out = .inl (.inr (.inr (.inr (y0, y1, y2, y3, S2)))) → ∀ (H1 : Heap) (locs1 : List Loc) (ls1 : Array Slot), ST D cy ad A s.heap (ZN n0 s.heap.size) S2 H1 locs1 → lv_has ls1 4 [(0, .ref (ad y0)), (1, .int y1), (2, .int y2), (3, .int y3)] → W p l e rmX10_findDoubted s m args below meth c H1 locs1 0 0 (MQ below (QcM D cy ad A n0 S' (none)) args s 0 0 A) (F0 m 136 ls1 [])) : W p l e rmX10_findDoubted s m args below meth c H locs 0 0 (MQ below (QcM D cy ad A n0 S' (none)) args s 0 0 A) (F0 m 109 ls [.int z2, .int z1, .ref (ad z0)]) := by
  unfold bX10_findDoubted_109 at hF
  obtain ⟨hx, hb, -, hown, -, hts, -⟩ := id C0
  refine lv_iconst (v := (0 : Int32)) hx hb dX10_findDoubted_109 (by decide) ?_
  exact wX10_findDoubted_110 ad A C0 M hr hF (lv_sub hl [0, 1, 2, 3] rfl) Kr Kh0 Kh1 Kh2 Kh3
set_option maxHeartbeats 4000000 in
set_option maxRecDepth 100000 in
theorem wX10_findDoubted_56 {p : Program} {l : Launch} {e : Env} {s : State} {m : MethodId} {args : Array Value} {below : List Frame} {meth : Method} {c : Code} {D : va_G} {cy : Nat → ClassId} (ad : Nat → Nat) (A : Nat → Prop) {S : MS} {S' : MS} {H : Heap} {locs : List Loc} {n0 : Nat} {out : (((Nat × Int32 × Int32 × MS) ⊕ ((Nat × Int32 × Int32 × MS) ⊕ ((Nat × Int32 × Int32 × Int32 × MS) ⊕ (Nat × Int32 × Int32 × Int32 × MS)))) ⊕ MS)} {ls : Array Slot} {x0 : Nat} {x1 : Int32} {x2 : Int32} {x3 : Int32} (C0 : CX p s m args meth c RX10 cX10_findDoubted 4 D cy) (M : ST D cy ad A s.heap (ZN n0 s.heap.size) S H locs) (hr : meth.sig.returnType = none) (hF : bX10_findDoubted_56 S x0 x1 x2 x3 = some out) (hl : lv_has ls 4 [(0, .ref (ad x0)), (1, .int x1), (2, .int x2), (3, .int x3)]) (Kr : ∀ r9, out = .inr r9 → r9 = S') (Kh0 : ∀ (y0 : Nat) (y1 : Int32) (y2 : Int32) (S2 : MS), out = .inl (.inl (y0, y1, y2, S2)) → ∀ (H1 : Heap) (locs1 : List Loc) (ls1 : Array Slot), ST D cy ad A s.heap (ZN n0 s.heap.size) S2 H1 locs1 → lv_has ls1 4 [(0, .ref (ad y0)), (1, .int y1), (2, .int y2)] → W p l e rmX10_findDoubted s m args below meth c H1 locs1 0 0 (MQ below (QcM D cy ad A n0 S' (none)) args s 0 0 A) (F0 m 4 ls1 [])) (Kh1 : ∀ (y0 : Nat) (y1 : Int32) (y2 : Int32) (S2 : MS), out = .inl (.inr (.inl (y0, y1, y2, S2))) → ∀ (H1 : Heap) (locs1 : List Loc) (ls1 : Array Slot), ST D cy ad A s.heap (ZN n0 s.heap.size) S2 H1 locs1 → lv_has ls1 4 [(0, .ref (ad y0)), (1, .int y1), (2, .int y2)] → W p l e rmX10_findDoubted s m args below meth c H1 locs1 0 0 (MQ below (QcM D cy ad A n0 S' (none)) args s 0 0 A) (F0 m 46 ls1 [])) (Kh2 : ∀ (y0 : Nat) (y1 : Int32) (y2 : Int32) (y3 : Int32) (S2 : MS), out = .inl (.inr (.inr (.inl (y0, y1, y2, y3, S2)))) → ∀ (H1 : Heap) (locs1 : List Loc) (ls1 : Array Slot), ST D cy ad A s.heap (ZN n0 s.heap.size) S2 H1 locs1 → lv_has ls1 4 [(0, .ref (ad y0)), (1, .int y1), (2, .int y2), (3, .int y3)] → W p l e rmX10_findDoubted s m args below meth c H1 locs1 0 0 (MQ below (QcM D cy ad A n0 S' (none)) args s 0 0 A) (F0 m 56 ls1 [])) (Kh3 : ∀ (y0 : Nat) (y1 : Int32) (y2 : Int32) (y3 : Int32) (S2 : MS), out = .inl (.inr (.inr (.inr (y0, y1, y2, y3, S2)))) → ∀ (H1 : Heap) (locs1 : List Loc) (ls1 : Array Slot), ST D cy ad A s.heap (ZN n0 s.heap.size) S2 H1 locs1 → lv_has ls1 4 [(0, .ref (ad y0)), (1, .int y1), (2, .int y2), (3, .int y3)] → W p l e rmX10_findDoubted s m args below meth c H1 locs1 0 0 (MQ below (QcM D cy ad A n0 S' (none)) args s 0 0 A) (F0 m 136 ls1 [])) : W p l e rmX10_findDoubted s m args below meth c H locs 0 0 (MQ below (QcM D cy ad A n0 S' (none)) args s 0 0 A) (F0 m 56 ls []) := by
  unfold bX10_findDoubted_56 at hF
  obtain ⟨hx, hb, -, hown, -, hts, -⟩ := id C0
  refine lv_iload_n hx hb dX10_findDoubted_56 rfl (lv_at hl 3 rfl) ?_
  refine lv_aload_n hx hb dX10_findDoubted_57 rfl (lv_at hl 0 rfl) ?_
  obtain ⟨v58, hv, hF⟩ := ob hF
  refine k_getI C0 M.1 hv fl_X10_153 dX10_findDoubted_58 ?_
  refine lv_icmp_ge (tgt := 118) hx hb dX10_findDoubted_61 (by decide) (fun hc => ?_) (fun hc => ?_)
  · have hF := oi_t hc hF
    obtain ⟨v118, hv, hF⟩ := ob hF
    refine lv_iinc (v := v118) (lv' := [(2, .int v118), (0, .ref (ad x0)), (1, .int x1), (3, .int x3)]) hx hb dX10_findDoubted_118 hl (k := 2) rfl (by rw [← vtI hv]; rfl) (by decide) rfl (fun ls hl => ?_)
    refine lv_goto (tgt := 46) hx hb dX10_findDoubted_121 (by decide) ?_
    exact Kh1 _ _ _ _ (Option.some.inj hF).symm _ _ _ M (lv_sub hl [1, 2, 0] rfl)
  · have hF := oi_f hc hF
    refine lv_aload_n hx hb dX10_findDoubted_64 rfl (lv_at hl 0 rfl) ?_
    obtain ⟨v65, hv, hF⟩ := ob hF
    refine k_getP C0 M.1 hv fl_X10_58 dX10_findDoubted_65 ?_
    refine lv_iload_n hx hb dX10_findDoubted_68 rfl (lv_at hl 2 rfl) ?_
    refine lv_dup2_11 hx hb dX10_findDoubted_69 rfl rfl ?_
    obtain ⟨v70, hv, hF⟩ := ob hF
    refine k_ld C0 M.1 hv dX10_findDoubted_70 ?_
    refine lv_iload_n hx hb dX10_findDoubted_71 rfl (lv_at hl 2 rfl) ?_
    refine lv_iload_n hx hb dX10_findDoubted_72 rfl (lv_at hl 3 rfl) ?_
    refine lv_icmp_eq (tgt := 109) hx hb dX10_findDoubted_73 (by decide) (fun hc => ?_) (fun hc => ?_)
    · have hF := oi_t hc hF
      exact wX10_findDoubted_109 ad A C0 M hr hF (lv_sub hl [0, 1, 2, 3] rfl) Kr Kh0 Kh1 Kh2 Kh3
    · have hF := oi_f hc hF
      refine lv_aload_n hx hb dX10_findDoubted_76 rfl (lv_at hl 0 rfl) ?_
      obtain ⟨v77, hv, hF⟩ := ob hF
      refine k_getP C0 M.1 hv fl_X10_46 dX10_findDoubted_77 ?_
      refine lv_iload_n hx hb dX10_findDoubted_80 rfl (lv_at hl 2 rfl) ?_
      obtain ⟨v81, hv, hF⟩ := ob hF
      refine k_ld C0 M.1 hv dX10_findDoubted_81 ?_
      refine lv_if_lt (tgt := 109) hx hb dX10_findDoubted_82 (by decide) (fun hc => ?_) (fun hc => ?_)
      · have hF := oi_t hc hF
        exact wX10_findDoubted_109 ad A C0 M hr hF (lv_sub hl [0, 1, 2, 3] rfl) Kr Kh0 Kh1 Kh2 Kh3
      · have hF := oi_f hc hF
        refine lv_aload_n hx hb dX10_findDoubted_85 rfl (lv_at hl 0 rfl) ?_
        obtain ⟨v86, hv, hF⟩ := ob hF
        refine k_getP C0 M.1 hv fl_X10_46 dX10_findDoubted_86 ?_
        refine lv_iload_n hx hb dX10_findDoubted_89 rfl (lv_at hl 3 rfl) ?_
        obtain ⟨v90, hv, hF⟩ := ob hF
        refine k_ld C0 M.1 hv dX10_findDoubted_90 ?_
        refine lv_if_lt (tgt := 109) hx hb dX10_findDoubted_91 (by decide) (fun hc => ?_) (fun hc => ?_)
        · have hF := oi_t hc hF
          exact wX10_findDoubted_109 ad A C0 M hr hF (lv_sub hl [0, 1, 2, 3] rfl) Kr Kh0 Kh1 Kh2 Kh3
        · have hF := oi_f hc hF
          refine lv_aload_n hx hb dX10_findDoubted_94 rfl (lv_at hl 0 rfl) ?_
          refine lv_iload_n hx hb dX10_findDoubted_95 rfl (lv_at hl 2 rfl) ?_
          refine lv_iload_n hx hb dX10_findDoubted_96 rfl (lv_at hl 3 rfl) ?_
          obtain ⟨_, hrec, hF⟩ := ob hF
          obtain ⟨v97, hcl, hF⟩ := ob hF
          refine go_SI (r_V (rest := [.int v70, .int x2, .ref (ad v65)]) (As := [.int x2, .int x3]) C0 cb_X10_260 M.1 hrec (tX10_doQuarrel l D cy ad A hcl) (pre_R C0 M.1) hl dX10_findDoubted_97 rfl (Nat.le_of_ble_eq_true rfl) ⟨rfl, rfl⟩ ⟨Nat.le_of_ble_eq_true rfl, Nat.le_of_ble_eq_true rfl⟩ ⟨Nat.le_of_ble_eq_true rfl, Nat.le_of_ble_eq_true rfl⟩ rfl) ?_
          refine lv_if_eq (tgt := 109) hx hb dX10_findDoubted_100 (by decide) (fun hc => ?_) (fun hc => ?_)
          · have hF := oi_t hc hF
            exact wX10_findDoubted_109 ad A C0 M hr hF (lv_sub hl [0, 1, 2, 3] rfl) Kr Kh0 Kh1 Kh2 Kh3
          · have hF := oi_f hc hF
            refine lv_iconst (v := (1 : Int32)) hx hb dX10_findDoubted_103 (by decide) ?_
            refine lv_iload_n hx hb dX10_findDoubted_104 rfl (lv_at hl 3 rfl) ?_
            refine lv_ishl hx hb dX10_findDoubted_105 ?_
            refine lv_goto (tgt := 110) hx hb dX10_findDoubted_106 (by decide) ?_
            exact wX10_findDoubted_110 ad A C0 M hr hF (lv_sub hl [0, 1, 2, 3] rfl) Kr Kh0 Kh1 Kh2 Kh3
set_option maxHeartbeats 4000000 in
set_option maxRecDepth 100000 in
theorem wX10_findDoubted_184 {p : Program} {l : Launch} {e : Env} {s : State} {m : MethodId} {args : Array Value} {below : List Frame} {meth : Method} {c : Code} {D : va_G} {cy : Nat → ClassId} (ad : Nat → Nat) (A : Nat → Prop) {S : MS} {S' : MS} {H : Heap} {locs : List Loc} {n0 : Nat} {out : (((Nat × Int32 × Int32 × MS) ⊕ ((Nat × Int32 × Int32 × MS) ⊕ ((Nat × Int32 × Int32 × Int32 × MS) ⊕ (Nat × Int32 × Int32 × Int32 × MS)))) ⊕ MS)} {ls : Array Slot} {x0 : Nat} {x1 : Int32} {x2 : Int32} {x3 : Int32} (C0 : CX p s m args meth c RX10 cX10_findDoubted 4 D cy) (M : ST D cy ad A s.heap (ZN n0 s.heap.size) S H locs) (hr : meth.sig.returnType = none) (hF : bX10_findDoubted_184 S x0 x1 x2 x3 = some out) (hl : lv_has ls 4 [(0, .ref (ad x0)), (1, .int x1), (2, .int x2), (3, .int x3)]) (Kr : ∀ r9, out = .inr r9 → r9 = S') (Kh0 : ∀ (y0 : Nat) (y1 : Int32) (y2 : Int32) (S2 : MS), out = .inl (.inl (y0, y1, y2, S2)) → ∀ (H1 : Heap) (locs1 : List Loc) (ls1 : Array Slot), ST D cy ad A s.heap (ZN n0 s.heap.size) S2 H1 locs1 → lv_has ls1 4 [(0, .ref (ad y0)), (1, .int y1), (2, .int y2)] → W p l e rmX10_findDoubted s m args below meth c H1 locs1 0 0 (MQ below (QcM D cy ad A n0 S' (none)) args s 0 0 A) (F0 m 4 ls1 [])) (Kh1 : ∀ (y0 : Nat) (y1 : Int32) (y2 : Int32) (S2 : MS), out = .inl (.inr (.inl (y0, y1, y2, S2))) → ∀ (H1 : Heap) (locs1 : List Loc) (ls1 : Array Slot), ST D cy ad A s.heap (ZN n0 s.heap.size) S2 H1 locs1 → lv_has ls1 4 [(0, .ref (ad y0)), (1, .int y1), (2, .int y2)] → W p l e rmX10_findDoubted s m args below meth c H1 locs1 0 0 (MQ below (QcM D cy ad A n0 S' (none)) args s 0 0 A) (F0 m 46 ls1 [])) (Kh2 : ∀ (y0 : Nat) (y1 : Int32) (y2 : Int32) (y3 : Int32) (S2 : MS), out = .inl (.inr (.inr (.inl (y0, y1, y2, y3, S2)))) → ∀ (H1 : Heap) (locs1 : List Loc) (ls1 : Array Slot), ST D cy ad A s.heap (ZN n0 s.heap.size) S2 H1 locs1 → lv_has ls1 4 [(0, .ref (ad y0)), (1, .int y1), (2, .int y2), (3, .int y3)] → W p l e rmX10_findDoubted s m args below meth c H1 locs1 0 0 (MQ below (QcM D cy ad A n0 S' (none)) args s 0 0 A) (F0 m 56 ls1 [])) (Kh3 : ∀ (y0 : Nat) (y1 : Int32) (y2 : Int32) (y3 : Int32) (S2 : MS), out = .inl (.inr (.inr (.inr (y0, y1, y2, y3, S2)))) → ∀ (H1 : Heap) (locs1 : List Loc) (ls1 : Array Slot), ST D cy ad A s.heap (ZN n0 s.heap.size) S2 H1 locs1 → lv_has ls1 4 [(0, .ref (ad y0)), (1, .int y1), (2, .int y2), (3, .int y3)] → W p l e rmX10_findDoubted s m args below meth c H1 locs1 0 0 (MQ below (QcM D cy ad A n0 S' (none)) args s 0 0 A) (F0 m 136 ls1 [])) : W p l e rmX10_findDoubted s m args below meth c H locs 0 0 (MQ below (QcM D cy ad A n0 S' (none)) args s 0 0 A) (F0 m 184 ls []) := by
  unfold bX10_findDoubted_184 at hF
  obtain ⟨hx, hb, -, hown, -, hts, -⟩ := id C0
  obtain ⟨v184, hv, hF⟩ := ob hF
  refine lv_iinc (v := v184) (lv' := [(3, .int v184), (0, .ref (ad x0)), (1, .int x1), (2, .int x2)]) hx hb dX10_findDoubted_184 hl (k := 3) rfl (by rw [← vtI hv]; rfl) (by decide) rfl (fun ls hl => ?_)
  refine lv_goto (tgt := 136) hx hb dX10_findDoubted_187 (by decide) ?_
  exact Kh3 _ _ _ _ _ (Option.some.inj hF).symm _ _ _ M (lv_sub hl [1, 2, 3, 0] rfl)
set_option maxHeartbeats 4000000 in
set_option maxRecDepth 100000 in
theorem wX10_findDoubted_136 {p : Program} {l : Launch} {e : Env} {s : State} {m : MethodId} {args : Array Value} {below : List Frame} {meth : Method} {c : Code} {D : va_G} {cy : Nat → ClassId} (ad : Nat → Nat) (A : Nat → Prop) {S : MS} {S' : MS} {H : Heap} {locs : List Loc} {n0 : Nat} {out : (((Nat × Int32 × Int32 × MS) ⊕ ((Nat × Int32 × Int32 × MS) ⊕ ((Nat × Int32 × Int32 × Int32 × MS) ⊕ (Nat × Int32 × Int32 × Int32 × MS)))) ⊕ MS)} {ls : Array Slot} {x0 : Nat} {x1 : Int32} {x2 : Int32} {x3 : Int32} (C0 : CX p s m args meth c RX10 cX10_findDoubted 4 D cy) (M : ST D cy ad A s.heap (ZN n0 s.heap.size) S H locs) (hr : meth.sig.returnType = none) (hF : bX10_findDoubted_136 S x0 x1 x2 x3 = some out) (hl : lv_has ls 4 [(0, .ref (ad x0)), (1, .int x1), (2, .int x2), (3, .int x3)]) (Kr : ∀ r9, out = .inr r9 → r9 = S') (Kh0 : ∀ (y0 : Nat) (y1 : Int32) (y2 : Int32) (S2 : MS), out = .inl (.inl (y0, y1, y2, S2)) → ∀ (H1 : Heap) (locs1 : List Loc) (ls1 : Array Slot), ST D cy ad A s.heap (ZN n0 s.heap.size) S2 H1 locs1 → lv_has ls1 4 [(0, .ref (ad y0)), (1, .int y1), (2, .int y2)] → W p l e rmX10_findDoubted s m args below meth c H1 locs1 0 0 (MQ below (QcM D cy ad A n0 S' (none)) args s 0 0 A) (F0 m 4 ls1 [])) (Kh1 : ∀ (y0 : Nat) (y1 : Int32) (y2 : Int32) (S2 : MS), out = .inl (.inr (.inl (y0, y1, y2, S2))) → ∀ (H1 : Heap) (locs1 : List Loc) (ls1 : Array Slot), ST D cy ad A s.heap (ZN n0 s.heap.size) S2 H1 locs1 → lv_has ls1 4 [(0, .ref (ad y0)), (1, .int y1), (2, .int y2)] → W p l e rmX10_findDoubted s m args below meth c H1 locs1 0 0 (MQ below (QcM D cy ad A n0 S' (none)) args s 0 0 A) (F0 m 46 ls1 [])) (Kh2 : ∀ (y0 : Nat) (y1 : Int32) (y2 : Int32) (y3 : Int32) (S2 : MS), out = .inl (.inr (.inr (.inl (y0, y1, y2, y3, S2)))) → ∀ (H1 : Heap) (locs1 : List Loc) (ls1 : Array Slot), ST D cy ad A s.heap (ZN n0 s.heap.size) S2 H1 locs1 → lv_has ls1 4 [(0, .ref (ad y0)), (1, .int y1), (2, .int y2), (3, .int y3)] → W p l e rmX10_findDoubted s m args below meth c H1 locs1 0 0 (MQ below (QcM D cy ad A n0 S' (none)) args s 0 0 A) (F0 m 56 ls1 [])) (Kh3 : ∀ (y0 : Nat) (y1 : Int32) (y2 : Int32) (y3 : Int32) (S2 : MS), out = .inl (.inr (.inr (.inr (y0, y1, y2, y3, S2)))) → ∀ (H1 : Heap) (locs1 : List Loc) (ls1 : Array Slot), ST D cy ad A s.heap (ZN n0 s.heap.size) S2 H1 locs1 → lv_has ls1 4 [(0, .ref (ad y0)), (1, .int y1), (2, .int y2), (3, .int y3)] → W p l e rmX10_findDoubted s m args below meth c H1 locs1 0 0 (MQ below (QcM D cy ad A n0 S' (none)) args s 0 0 A) (F0 m 136 ls1 [])) : W p l e rmX10_findDoubted s m args below meth c H locs 0 0 (MQ below (QcM D cy ad A n0 S' (none)) args s 0 0 A) (F0 m 136 ls []) := by
  unfold bX10_findDoubted_136 at hF
  obtain ⟨hx, hb, -, hown, -, hts, -⟩ := id C0
  refine lv_iload_n hx hb dX10_findDoubted_136 rfl (lv_at hl 3 rfl) ?_
  refine lv_iconst (v := (1 : Int32)) hx hb dX10_findDoubted_137 (by decide) ?_
  refine lv_aload_n hx hb dX10_findDoubted_138 rfl (lv_at hl 0 rfl) ?_
  obtain ⟨v139, hv, hF⟩ := ob hF
  refine k_getI C0 M.1 hv fl_X10_153 dX10_findDoubted_139 ?_
  refine lv_ishl hx hb dX10_findDoubted_142 ?_
  refine lv_icmp_ge (tgt := 190) hx hb dX10_findDoubted_143 (by decide) (fun hc => ?_) (fun hc => ?_)
  · have hF := oi_t hc hF
    obtain rfl := (Kr _ (Option.some.inj hF).symm)
    exact rt_MV C0 M hr dX10_findDoubted_190
  · have hF := oi_f hc hF
    refine lv_iload_n hx hb dX10_findDoubted_146 rfl (lv_at hl 3 rfl) ?_
    obtain ⟨v147, hcl, hF⟩ := ob hF
    refine go_SI (r_S (rest := []) (As := [.int x3]) C0 cb_X10_266 (tX10_count l D cy ad hcl) (pre_S C0) hl dX10_findDoubted_147 rfl (Nat.le_of_ble_eq_true rfl) ⟨rfl, rfl⟩ ⟨Nat.le_of_ble_eq_true rfl, Nat.le_of_ble_eq_true rfl⟩ ⟨Nat.le_of_ble_eq_true rfl, Nat.le_of_ble_eq_true rfl⟩ rfl) ?_
    refine lv_iload_n hx hb dX10_findDoubted_150 rfl (lv_at hl 2 rfl) ?_
    refine lv_icmp_ge (tgt := 184) hx hb dX10_findDoubted_151 (by decide) (fun hc => ?_) (fun hc => ?_)
    · have hF := oi_t hc hF
      exact wX10_findDoubted_184 ad A C0 M hr hF (lv_sub hl [0, 1, 2, 3] rfl) Kr Kh0 Kh1 Kh2 Kh3
    · have hF := oi_f hc hF
      refine lv_iload_n hx hb dX10_findDoubted_154 rfl (lv_at hl 3 rfl) ?_
      refine lv_iload_n hx hb dX10_findDoubted_155 rfl (lv_at hl 1 rfl) ?_
      refine lv_iconst (v := (-1 : Int32)) hx hb dX10_findDoubted_156 (by decide) ?_
      refine lv_ixor hx hb dX10_findDoubted_157 ?_
      refine lv_iand hx hb dX10_findDoubted_158 ?_
      refine lv_if_ne (tgt := 184) hx hb dX10_findDoubted_159 (by decide) (fun hc => ?_) (fun hc => ?_)
      · have hF := oi_f hc hF
        exact wX10_findDoubted_184 ad A C0 M hr hF (lv_sub hl [0, 1, 2, 3] rfl) Kr Kh0 Kh1 Kh2 Kh3
      · have hF := oi_t hc hF
        refine lv_aload_n hx hb dX10_findDoubted_162 rfl (lv_at hl 0 rfl) ?_
        refine lv_iload_n hx hb dX10_findDoubted_163 rfl (lv_at hl 1 rfl) ?_
        refine lv_iload_n hx hb dX10_findDoubted_164 rfl (lv_at hl 3 rfl) ?_
        refine lv_iconst (v := (-1 : Int32)) hx hb dX10_findDoubted_165 (by decide) ?_
        refine lv_ixor hx hb dX10_findDoubted_166 ?_
        refine lv_iand hx hb dX10_findDoubted_167 ?_
        obtain ⟨_, hrec, hF⟩ := ob hF
        obtain ⟨v168, hcl, hF⟩ := ob hF
        refine go_SI (r_V (rest := []) (As := [.int (x1 &&& (x3 ^^^ (-1 : Int32)))]) C0 cb_X10_269 M.1 hrec (tX10_isQuiet l D cy ad A hcl) (pre_R C0 M.1) hl dX10_findDoubted_168 rfl (Nat.le_of_ble_eq_true rfl) ⟨rfl, rfl⟩ ⟨Nat.le_of_ble_eq_true rfl, Nat.le_of_ble_eq_true rfl⟩ ⟨Nat.le_of_ble_eq_true rfl, Nat.le_of_ble_eq_true rfl⟩ rfl) ?_
        refine lv_if_eq (tgt := 184) hx hb dX10_findDoubted_171 (by decide) (fun hc => ?_) (fun hc => ?_)
        · have hF := oi_t hc hF
          exact wX10_findDoubted_184 ad A C0 M hr hF (lv_sub hl [0, 1, 2, 3] rfl) Kr Kh0 Kh1 Kh2 Kh3
        · have hF := oi_f hc hF
          refine lv_aload_n hx hb dX10_findDoubted_174 rfl (lv_at hl 0 rfl) ?_
          refine lv_iload_n hx hb dX10_findDoubted_175 rfl (lv_at hl 3 rfl) ?_
          obtain ⟨S176, hv, hF⟩ := ob hF
          refine k_sI C0 M hv fl_X10_263 dX10_findDoubted_176 (fun H locs M => ?_)
          refine lv_iload_n hx hb dX10_findDoubted_179 rfl (lv_at hl 3 rfl) ?_
          obtain ⟨v180, hcl, hF⟩ := ob hF
          refine go_SI (r_S (rest := []) (As := [.int x3]) C0 cb_X10_266 (tX10_count l D cy ad hcl) (pre_S C0) hl dX10_findDoubted_180 rfl (Nat.le_of_ble_eq_true rfl) ⟨rfl, rfl⟩ ⟨Nat.le_of_ble_eq_true rfl, Nat.le_of_ble_eq_true rfl⟩ ⟨Nat.le_of_ble_eq_true rfl, Nat.le_of_ble_eq_true rfl⟩ rfl) ?_
          refine lv_istore_n (lv' := [(2, .int v180), (0, .ref (ad x0)), (1, .int x1), (3, .int x3)]) hx hb dX10_findDoubted_183 rfl hl (by decide) rfl (fun ls hl => ?_)
          exact wX10_findDoubted_184 ad A C0 M hr hF (lv_sub hl [1, 2, 0, 3] rfl) Kr Kh0 Kh1 Kh2 Kh3
set_option maxHeartbeats 4000000 in
set_option maxRecDepth 100000 in
theorem tX10_findDoubted (l : Launch) (D : va_G) (cy : Nat → ClassId) (ad : Nat → Nat) (A : Nat → Prop) {S S' : MS} {a0 : Nat} (h : fX10_findDoubted S a0 = some S') : Met l yX10_findDoubted [Cond.code yX10_findDoubted cX10_findDoubted 4 (none)] rmX10_findDoubted (PcR D cy ad A S [.ref (ad a0)]) (QcM D cy ad A (m_n S) S' (none)) 0 0 A := by
  refine met_M (by decide +kernel) cw_X10_findDoubted (Nat.le_of_ble_eq_true rfl) ?_
  intro p e s m args below meth c ls C0 M hr hin hl
  have hl : lv_has ls 4 [(0, .ref (ad a0))] := hl
  have key := lim_walk (step := sX10_findDoubted) (fun (q : ((Nat × Int32 × Int32 × MS) ⊕ ((Nat × Int32 × Int32 × MS) ⊕ ((Nat × Int32 × Int32 × Int32 × MS) ⊕ (Nat × Int32 × Int32 × Int32 × MS))))) (r9 : MS) => ∀ (S' : MS), r9 = S' → ((∀ (y0 : Nat) (y1 : Int32) (y2 : Int32) (S2 : MS), q = (.inl (y0, y1, y2, S2)) → ∀ (H1 : Heap) (locs1 : List Loc) (ls1 : Array Slot), ST D cy ad A s.heap (ZN (m_n S) s.heap.size) S2 H1 locs1 → lv_has ls1 4 [(0, .ref (ad y0)), (1, .int y1), (2, .int y2)] → W p l e rmX10_findDoubted s m args below meth c H1 locs1 0 0 (MQ below (QcM D cy ad A (m_n S) S' (none)) args s 0 0 A) (F0 m 4 ls1 [])) ∧ (∀ (y0 : Nat) (y1 : Int32) (y2 : Int32) (S2 : MS), q = (.inr (.inl (y0, y1, y2, S2))) → ∀ (H1 : Heap) (locs1 : List Loc) (ls1 : Array Slot), ST D cy ad A s.heap (ZN (m_n S) s.heap.size) S2 H1 locs1 → lv_has ls1 4 [(0, .ref (ad y0)), (1, .int y1), (2, .int y2)] → W p l e rmX10_findDoubted s m args below meth c H1 locs1 0 0 (MQ below (QcM D cy ad A (m_n S) S' (none)) args s 0 0 A) (F0 m 46 ls1 [])) ∧ (∀ (y0 : Nat) (y1 : Int32) (y2 : Int32) (y3 : Int32) (S2 : MS), q = (.inr (.inr (.inl (y0, y1, y2, y3, S2)))) → ∀ (H1 : Heap) (locs1 : List Loc) (ls1 : Array Slot), ST D cy ad A s.heap (ZN (m_n S) s.heap.size) S2 H1 locs1 → lv_has ls1 4 [(0, .ref (ad y0)), (1, .int y1), (2, .int y2), (3, .int y3)] → W p l e rmX10_findDoubted s m args below meth c H1 locs1 0 0 (MQ below (QcM D cy ad A (m_n S) S' (none)) args s 0 0 A) (F0 m 56 ls1 [])) ∧ (∀ (y0 : Nat) (y1 : Int32) (y2 : Int32) (y3 : Int32) (S2 : MS), q = (.inr (.inr (.inr (y0, y1, y2, y3, S2)))) → ∀ (H1 : Heap) (locs1 : List Loc) (ls1 : Array Slot), ST D cy ad A s.heap (ZN (m_n S) s.heap.size) S2 H1 locs1 → lv_has ls1 4 [(0, .ref (ad y0)), (1, .int y1), (2, .int y2), (3, .int y3)] → W p l e rmX10_findDoubted s m args below meth c H1 locs1 0 0 (MQ below (QcM D cy ad A (m_n S) S' (none)) args s 0 0 A) (F0 m 136 ls1 [])))) ?_
  · unfold fX10_findDoubted at h
    cases hs0 : bX10_findDoubted_0 S a0 with
    | none => rw [hs0] at h; cases h
    | some out =>
      rw [hs0] at h
      refine wX10_findDoubted_0 ad A C0 M hr hs0 hl (fun r9 hr9 => ?_) ?_ ?_ ?_ ?_
      · subst hr9; exact Option.some.inj h
      · intro y0 y1 y2 y3 hq; subst hq; exact (key _ _ h _ rfl).1 _ _ _ _ rfl
      · intro y0 y1 y2 y3 hq; subst hq; exact (key _ _ h _ rfl).2.1 _ _ _ _ rfl
      · intro y0 y1 y2 y3 y4 hq; subst hq; exact (key _ _ h _ rfl).2.2.1 _ _ _ _ _ rfl
      · intro y0 y1 y2 y3 y4 hq; subst hq; exact (key _ _ h _ rfl).2.2.2 _ _ _ _ _ rfl
  · intro q r9 out hst hre hin9
    intro S' er; subst er
    refine ⟨?_, ?_, ?_, ?_⟩
    · intro y0 y1 y2 y3 hq H1 locs1 ls1 M hl
      subst hq
      exact wX10_findDoubted_4 ad A C0 M hr hst hl hre (fun k0 k1 k2 k3 hk => (hin9 _ hk _ rfl).1 _ _ _ _ rfl) (fun k0 k1 k2 k3 hk => (hin9 _ hk _ rfl).2.1 _ _ _ _ rfl) (fun k0 k1 k2 k3 k4 hk => (hin9 _ hk _ rfl).2.2.1 _ _ _ _ _ rfl) (fun k0 k1 k2 k3 k4 hk => (hin9 _ hk _ rfl).2.2.2 _ _ _ _ _ rfl)
    · intro y0 y1 y2 y3 hq H1 locs1 ls1 M hl
      subst hq
      exact wX10_findDoubted_46 ad A C0 M hr hst hl hre (fun k0 k1 k2 k3 hk => (hin9 _ hk _ rfl).1 _ _ _ _ rfl) (fun k0 k1 k2 k3 hk => (hin9 _ hk _ rfl).2.1 _ _ _ _ rfl) (fun k0 k1 k2 k3 k4 hk => (hin9 _ hk _ rfl).2.2.1 _ _ _ _ _ rfl) (fun k0 k1 k2 k3 k4 hk => (hin9 _ hk _ rfl).2.2.2 _ _ _ _ _ rfl)
    · intro y0 y1 y2 y3 y4 hq H1 locs1 ls1 M hl
      subst hq
      exact wX10_findDoubted_56 ad A C0 M hr hst hl hre (fun k0 k1 k2 k3 hk => (hin9 _ hk _ rfl).1 _ _ _ _ rfl) (fun k0 k1 k2 k3 hk => (hin9 _ hk _ rfl).2.1 _ _ _ _ rfl) (fun k0 k1 k2 k3 k4 hk => (hin9 _ hk _ rfl).2.2.1 _ _ _ _ _ rfl) (fun k0 k1 k2 k3 k4 hk => (hin9 _ hk _ rfl).2.2.2 _ _ _ _ _ rfl)
    · intro y0 y1 y2 y3 y4 hq H1 locs1 ls1 M hl
      subst hq
      exact wX10_findDoubted_136 ad A C0 M hr hst hl hre (fun k0 k1 k2 k3 hk => (hin9 _ hk _ rfl).1 _ _ _ _ rfl) (fun k0 k1 k2 k3 hk => (hin9 _ hk _ rfl).2.1 _ _ _ _ rfl) (fun k0 k1 k2 k3 k4 hk => (hin9 _ hk _ rfl).2.2.1 _ _ _ _ _ rfl) (fun k0 k1 k2 k3 k4 hk => (hin9 _ hk _ rfl).2.2.2 _ _ _ _ _ rfl)
set_option maxHeartbeats 4000000 in
set_option maxRecDepth 100000 in
theorem wX10_lastWire_0 {p : Program} {l : Launch} {e : Env} {s : State} {m : MethodId} {args : Array Value} {below : List Frame} {meth : Method} {c : Code} {D : va_G} {cy : Nat → ClassId} (ad : Nat → Nat) (A : Nat → Prop) {S : MS} {r : Int32} {out : ((Nat × Int32 × Int32 × Int32) ⊕ Int32)} {ls : Array Slot} {x0 : Nat} {x1 : Int32} (C0 : CX p s m args meth c RX10 cX10_lastWire 5 D cy) (M : MW D cy ad A S s.heap) (hr : meth.sig.returnType = some .int) (hF : bX10_lastWire_0 S x0 x1 = some out) (hl : lv_has ls 5 [(0, .ref (ad x0)), (1, .int x1)]) (Kr : ∀ r9, out = .inr r9 → r9 = r) (Kh0 : ∀ (y0 : Nat) (y1 : Int32) (y2 : Int32) (y3 : Int32), out = .inl (y0, y1, y2, y3) → ∀ (ls1 : Array Slot), lv_has ls1 5 [(0, .ref (ad y0)), (1, .int y1), (2, .int y2), (3, .int y3)] → W p l e rmX10_lastWire s m args below meth c s.heap [] 0 0 (MQ below (QcS (some (.int r))) args s 0 0 (fun _ => False)) (F0 m 5 ls1 [])) : W p l e rmX10_lastWire s m args below meth c s.heap [] 0 0 (MQ below (QcS (some (.int r))) args s 0 0 (fun _ => False)) (F0 m 0 ls []) := by
  unfold bX10_lastWire_0 at hF
  obtain ⟨hx, hb, -, hown, -, hts, -⟩ := id C0
  refine lv_bipush (v := (-9 : Int32)) hx hb dX10_lastWire_0 (by decide) ?_
  refine lv_istore_n (lv' := [(2, .int (-9 : Int32)), (0, .ref (ad x0)), (1, .int x1)]) hx hb dX10_lastWire_2 rfl hl (by decide) rfl (fun ls hl => ?_)
  refine lv_iconst (v := (0 : Int32)) hx hb dX10_lastWire_3 (by decide) ?_
  refine lv_istore_n (lv' := [(3, .int (0 : Int32)), (2, .int (-9 : Int32)), (0, .ref (ad x0)), (1, .int x1)]) hx hb dX10_lastWire_4 rfl hl (by decide) rfl (fun ls hl => ?_)
  exact Kh0 _ _ _ _ (Option.some.inj hF).symm _ (lv_sub hl [2, 3, 1, 0] rfl)
set_option maxHeartbeats 4000000 in
set_option maxRecDepth 100000 in
theorem wX10_lastWire_85 {p : Program} {l : Launch} {e : Env} {s : State} {m : MethodId} {args : Array Value} {below : List Frame} {meth : Method} {c : Code} {D : va_G} {cy : Nat → ClassId} (ad : Nat → Nat) (A : Nat → Prop) {S : MS} {r : Int32} {out : ((Nat × Int32 × Int32 × Int32) ⊕ Int32)} {ls : Array Slot} {x0 : Nat} {x1 : Int32} {x3 : Int32} {z0 : Int32} (C0 : CX p s m args meth c RX10 cX10_lastWire 5 D cy) (M : MW D cy ad A S s.heap) (hr : meth.sig.returnType = some .int) (hF : bX10_lastWire_85 S x0 x1 x3 z0 = some out) (hl : lv_has ls 5 [(0, .ref (ad x0)), (1, .int x1), (3, .int x3)]) (Kr : ∀ r9, out = .inr r9 → r9 = r) (Kh0 : ∀ (y0 : Nat) (y1 : Int32) (y2 : Int32) (y3 : Int32), out = .inl (y0, y1, y2, y3) → ∀ (ls1 : Array Slot), lv_has ls1 5 [(0, .ref (ad y0)), (1, .int y1), (2, .int y2), (3, .int y3)] → W p l e rmX10_lastWire s m args below meth c s.heap [] 0 0 (MQ below (QcS (some (.int r))) args s 0 0 (fun _ => False)) (F0 m 5 ls1 [])) : W p l e rmX10_lastWire s m args below meth c s.heap [] 0 0 (MQ below (QcS (some (.int r))) args s 0 0 (fun _ => False)) (F0 m 85 ls [.int z0]) := by
  unfold bX10_lastWire_85 at hF
  obtain ⟨hx, hb, -, hown, -, hts, -⟩ := id C0
  refine lv_istore_n (lv' := [(2, .int z0), (0, .ref (ad x0)), (1, .int x1), (3, .int x3)]) hx hb dX10_lastWire_85 rfl hl (by decide) rfl (fun ls hl => ?_)
  obtain ⟨v86, hv, hF⟩ := ob hF
  refine lv_iinc (v := v86) (lv' := [(3, .int v86), (2, .int z0), (0, .ref (ad x0)), (1, .int x1)]) hx hb dX10_lastWire_86 hl (k := 3) rfl (by rw [← vtI hv]; rfl) (by decide) rfl (fun ls hl => ?_)
  refine lv_goto (tgt := 5) hx hb dX10_lastWire_89 (by decide) ?_
  exact Kh0 _ _ _ _ (Option.some.inj hF).symm _ (lv_sub hl [2, 3, 1, 0] rfl)
set_option maxHeartbeats 4000000 in
set_option maxRecDepth 100000 in
theorem wX10_lastWire_80 {p : Program} {l : Launch} {e : Env} {s : State} {m : MethodId} {args : Array Value} {below : List Frame} {meth : Method} {c : Code} {D : va_G} {cy : Nat → ClassId} (ad : Nat → Nat) (A : Nat → Prop) {S : MS} {r : Int32} {out : ((Nat × Int32 × Int32 × Int32) ⊕ Int32)} {ls : Array Slot} {x0 : Nat} {x1 : Int32} {x3 : Int32} (C0 : CX p s m args meth c RX10 cX10_lastWire 5 D cy) (M : MW D cy ad A S s.heap) (hr : meth.sig.returnType = some .int) (hF : bX10_lastWire_80 S x0 x1 x3 = some out) (hl : lv_has ls 5 [(0, .ref (ad x0)), (1, .int x1), (3, .int x3)]) (Kr : ∀ r9, out = .inr r9 → r9 = r) (Kh0 : ∀ (y0 : Nat) (y1 : Int32) (y2 : Int32) (y3 : Int32), out = .inl (y0, y1, y2, y3) → ∀ (ls1 : Array Slot), lv_has ls1 5 [(0, .ref (ad y0)), (1, .int y1), (2, .int y2), (3, .int y3)] → W p l e rmX10_lastWire s m args below meth c s.heap [] 0 0 (MQ below (QcS (some (.int r))) args s 0 0 (fun _ => False)) (F0 m 5 ls1 [])) : W p l e rmX10_lastWire s m args below meth c s.heap [] 0 0 (MQ below (QcS (some (.int r))) args s 0 0 (fun _ => False)) (F0 m 80 ls []) := by
  unfold bX10_lastWire_80 at hF
  obtain ⟨hx, hb, -, hown, -, hts, -⟩ := id C0
  refine lv_iload_n hx hb dX10_lastWire_80 rfl (lv_at hl 2 rfl) ?_
  refine lv_goto (tgt := 85) hx hb dX10_lastWire_81 (by decide) ?_
  exact wX10_lastWire_85 ad A C0 M hr hF (lv_sub hl [0, 1, 2] rfl) Kr Kh0
set_option maxHeartbeats 4000000 in
set_option maxRecDepth 100000 in
theorem wX10_lastWire_84 {p : Program} {l : Launch} {e : Env} {s : State} {m : MethodId} {args : Array Value} {below : List Frame} {meth : Method} {c : Code} {D : va_G} {cy : Nat → ClassId} (ad : Nat → Nat) (A : Nat → Prop) {S : MS} {r : Int32} {out : ((Nat × Int32 × Int32 × Int32) ⊕ Int32)} {ls : Array Slot} {x0 : Nat} {x1 : Int32} {x2 : Int32} {x3 : Int32} (C0 : CX p s m args meth c RX10 cX10_lastWire 5 D cy) (M : MW D cy ad A S s.heap) (hr : meth.sig.returnType = some .int) (hF : bX10_lastWire_84 S x0 x1 x2 x3 = some out) (hl : lv_has ls 5 [(0, .ref (ad x0)), (1, .int x1), (2, .int x2), (3, .int x3)]) (Kr : ∀ r9, out = .inr r9 → r9 = r) (Kh0 : ∀ (y0 : Nat) (y1 : Int32) (y2 : Int32) (y3 : Int32), out = .inl (y0, y1, y2, y3) → ∀ (ls1 : Array Slot), lv_has ls1 5 [(0, .ref (ad y0)), (1, .int y1), (2, .int y2), (3, .int y3)] → W p l e rmX10_lastWire s m args below meth c s.heap [] 0 0 (MQ below (QcS (some (.int r))) args s 0 0 (fun _ => False)) (F0 m 5 ls1 [])) : W p l e rmX10_lastWire s m args below meth c s.heap [] 0 0 (MQ below (QcS (some (.int r))) args s 0 0 (fun _ => False)) (F0 m 84 ls []) := by
  unfold bX10_lastWire_84 at hF
  obtain ⟨hx, hb, -, hown, -, hts, -⟩ := id C0
  refine lv_iload_n hx hb dX10_lastWire_84 rfl (lv_at hl 2 rfl) ?_
  exact wX10_lastWire_85 ad A C0 M hr hF (lv_sub hl [0, 1, 3] rfl) Kr Kh0
set_option maxHeartbeats 4000000 in
set_option maxRecDepth 100000 in
theorem wX10_lastWire_54 {p : Program} {l : Launch} {e : Env} {s : State} {m : MethodId} {args : Array Value} {below : List Frame} {meth : Method} {c : Code} {D : va_G} {cy : Nat → ClassId} (ad : Nat → Nat) (A : Nat → Prop) {S : MS} {r : Int32} {out : ((Nat × Int32 × Int32 × Int32) ⊕ Int32)} {ls : Array Slot} {x0 : Nat} {x1 : Int32} {x2 : Int32} {x3 : Int32} {z0 : Int32} (C0 : CX p s m args meth c RX10 cX10_lastWire 5 D cy) (M : MW D cy ad A S s.heap) (hr : meth.sig.returnType = some .int) (hF : bX10_lastWire_54 S x0 x1 x2 x3 z0 = some out) (hl : lv_has ls 5 [(0, .ref (ad x0)), (1, .int x1), (2, .int x2), (3, .int x3)]) (Kr : ∀ r9, out = .inr r9 → r9 = r) (Kh0 : ∀ (y0 : Nat) (y1 : Int32) (y2 : Int32) (y3 : Int32), out = .inl (y0, y1, y2, y3) → ∀ (ls1 : Array Slot), lv_has ls1 5 [(0, .ref (ad y0)), (1, .int y1), (2, .int y2), (3, .int y3)] → W p l e rmX10_lastWire s m args below meth c s.heap [] 0 0 (MQ below (QcS (some (.int r))) args s 0 0 (fun _ => False)) (F0 m 5 ls1 [])) : W p l e rmX10_lastWire s m args below meth c s.heap [] 0 0 (MQ below (QcS (some (.int r))) args s 0 0 (fun _ => False)) (F0 m 54 ls [.int z0]) := by
  unfold bX10_lastWire_54 at hF
  obtain ⟨hx, hb, -, hown, -, hts, -⟩ := id C0
  refine lv_istore (lv' := [(4, .int z0), (0, .ref (ad x0)), (1, .int x1), (2, .int x2), (3, .int x3)]) hx hb dX10_lastWire_54 hl (by decide) rfl (fun ls hl => ?_)
  refine lv_iload hx hb dX10_lastWire_56 (lv_at hl 0 rfl) ?_
  refine lv_if_eq (tgt := 84) hx hb dX10_lastWire_58 (by decide) (fun hc => ?_) (fun hc => ?_)
  · have hF := oi_t hc hF
    exact wX10_lastWire_84 ad A C0 M hr hF (lv_sub hl [1, 2, 3, 4] rfl) Kr Kh0
  · have hF := oi_f hc hF
    refine lv_iload_n hx hb dX10_lastWire_61 rfl (lv_at hl 3 rfl) ?_
    refine lv_if_lt (tgt := 80) hx hb dX10_lastWire_62 (by decide) (fun hc => ?_) (fun hc => ?_)
    · have hF := oi_t hc hF
      exact wX10_lastWire_80 ad A C0 M hr hF (lv_sub hl [1, 2, 4] rfl) Kr Kh0
    · have hF := oi_f hc hF
      refine lv_aload_n hx hb dX10_lastWire_65 rfl (lv_at hl 1 rfl) ?_
      obtain ⟨v66, hv, hF⟩ := ob hF
      refine k_getP C0 M hv fl_X10_34 dX10_lastWire_66 ?_
      refine lv_iload_n hx hb dX10_lastWire_69 rfl (lv_at hl 4 rfl) ?_
      obtain ⟨v70, hv, hF⟩ := ob hF
      refine k_ld C0 M hv dX10_lastWire_70 ?_
      refine lv_aload_n hx hb dX10_lastWire_71 rfl (lv_at hl 1 rfl) ?_
      obtain ⟨v72, hv, hF⟩ := ob hF
      refine k_getP C0 M hv fl_X10_34 dX10_lastWire_72 ?_
      refine lv_iload_n hx hb dX10_lastWire_75 rfl (lv_at hl 3 rfl) ?_
      obtain ⟨v76, hv, hF⟩ := ob hF
      refine k_ld C0 M hv dX10_lastWire_76 ?_
      refine lv_icmp_lt (tgt := 84) hx hb dX10_lastWire_77 (by decide) (fun hc => ?_) (fun hc => ?_)
      · have hF := oi_t hc hF
        exact wX10_lastWire_84 ad A C0 M hr hF (lv_sub hl [1, 2, 3, 4] rfl) Kr Kh0
      · have hF := oi_f hc hF
        exact wX10_lastWire_80 ad A C0 M hr hF (lv_sub hl [1, 2, 4] rfl) Kr Kh0
set_option maxHeartbeats 4000000 in
set_option maxRecDepth 100000 in
theorem wX10_lastWire_53 {p : Program} {l : Launch} {e : Env} {s : State} {m : MethodId} {args : Array Value} {below : List Frame} {meth : Method} {c : Code} {D : va_G} {cy : Nat → ClassId} (ad : Nat → Nat) (A : Nat → Prop) {S : MS} {r : Int32} {out : ((Nat × Int32 × Int32 × Int32) ⊕ Int32)} {ls : Array Slot} {x0 : Nat} {x1 : Int32} {x2 : Int32} {x3 : Int32} (C0 : CX p s m args meth c RX10 cX10_lastWire 5 D cy) (M : MW D cy ad A S s.heap) (hr : meth.sig.returnType = some .int) (hF : bX10_lastWire_53 S x0 x1 x2 x3 = some out) (hl : lv_has ls 5 [(0, .ref (ad x0)), (1, .int x1), (2, .int x2), (3, .int x3)]) (Kr : ∀ r9, out = .inr r9 → r9 = r) (Kh0 : ∀ (y0 : Nat) (y1 : Int32) (y2 : Int32) (y3 : Int32), out = .inl (y0, y1, y2, y3) → ∀ (ls1 : Array Slot), lv_has ls1 5 [(0, .ref (ad y0)), (1, .int y1), (2, .int y2), (3, .int y3)] → W p l e rmX10_lastWire s m args below meth c s.heap [] 0 0 (MQ below (QcS (some (.int r))) args s 0 0 (fun _ => False)) (F0 m 5 ls1 [])) : W p l e rmX10_lastWire s m args below meth c s.heap [] 0 0 (MQ below (QcS (some (.int r))) args s 0 0 (fun _ => False)) (F0 m 53 ls []) := by
  unfold bX10_lastWire_53 at hF
  obtain ⟨hx, hb, -, hown, -, hts, -⟩ := id C0
  refine lv_iconst (v := (0 : Int32)) hx hb dX10_lastWire_53 (by decide) ?_
  exact wX10_lastWire_54 ad A C0 M hr hF (lv_sub hl [0, 1, 2, 3] rfl) Kr Kh0
set_option maxHeartbeats 4000000 in
set_option maxRecDepth 100000 in
theorem wX10_lastWire_5 {p : Program} {l : Launch} {e : Env} {s : State} {m : MethodId} {args : Array Value} {below : List Frame} {meth : Method} {c : Code} {D : va_G} {cy : Nat → ClassId} (ad : Nat → Nat) (A : Nat → Prop) {S : MS} {r : Int32} {out : ((Nat × Int32 × Int32 × Int32) ⊕ Int32)} {ls : Array Slot} {x0 : Nat} {x1 : Int32} {x2 : Int32} {x3 : Int32} (C0 : CX p s m args meth c RX10 cX10_lastWire 5 D cy) (M : MW D cy ad A S s.heap) (hr : meth.sig.returnType = some .int) (hF : bX10_lastWire_5 S x0 x1 x2 x3 = some out) (hl : lv_has ls 5 [(0, .ref (ad x0)), (1, .int x1), (2, .int x2), (3, .int x3)]) (Kr : ∀ r9, out = .inr r9 → r9 = r) (Kh0 : ∀ (y0 : Nat) (y1 : Int32) (y2 : Int32) (y3 : Int32), out = .inl (y0, y1, y2, y3) → ∀ (ls1 : Array Slot), lv_has ls1 5 [(0, .ref (ad y0)), (1, .int y1), (2, .int y2), (3, .int y3)] → W p l e rmX10_lastWire s m args below meth c s.heap [] 0 0 (MQ below (QcS (some (.int r))) args s 0 0 (fun _ => False)) (F0 m 5 ls1 [])) : W p l e rmX10_lastWire s m args below meth c s.heap [] 0 0 (MQ below (QcS (some (.int r))) args s 0 0 (fun _ => False)) (F0 m 5 ls []) := by
  unfold bX10_lastWire_5 at hF
  obtain ⟨hx, hb, -, hown, -, hts, -⟩ := id C0
  refine lv_iload_n hx hb dX10_lastWire_5 rfl (lv_at hl 3 rfl) ?_
  refine lv_aload_n hx hb dX10_lastWire_6 rfl (lv_at hl 0 rfl) ?_
  obtain ⟨v7, hv, hF⟩ := ob hF
  refine k_getI C0 M hv fl_X10_201 dX10_lastWire_7 ?_
  refine lv_icmp_ge (tgt := 92) hx hb dX10_lastWire_10 (by decide) (fun hc => ?_) (fun hc => ?_)
  · have hF := oi_t hc hF
    refine lv_iload_n hx hb dX10_lastWire_92 rfl (lv_at hl 2 rfl) ?_
    obtain rfl := (Kr _ (Option.some.inj hF).symm)
    exact rt_SI C0 hr dX10_lastWire_93
  · have hF := oi_f hc hF
    refine lv_aload_n hx hb dX10_lastWire_13 rfl (lv_at hl 0 rfl) ?_
    obtain ⟨v14, hv, hF⟩ := ob hF
    refine k_getP C0 M hv fl_X10_28 dX10_lastWire_14 ?_
    refine lv_iload_n hx hb dX10_lastWire_17 rfl (lv_at hl 3 rfl) ?_
    obtain ⟨v18, hv, hF⟩ := ob hF
    refine k_ld C0 M hv dX10_lastWire_18 ?_
    refine lv_iload_n hx hb dX10_lastWire_19 rfl (lv_at hl 1 rfl) ?_
    refine lv_icmp_ne (tgt := 53) hx hb dX10_lastWire_20 (by decide) (fun hc => ?_) (fun hc => ?_)
    · have hF := oi_f hc hF
      exact wX10_lastWire_53 ad A C0 M hr hF (lv_sub hl [0, 1, 2, 3] rfl) Kr Kh0
    · have hF := oi_t hc hF
      refine lv_aload_n hx hb dX10_lastWire_23 rfl (lv_at hl 0 rfl) ?_
      obtain ⟨v24, hv, hF⟩ := ob hF
      refine k_getP C0 M hv fl_X10_31 dX10_lastWire_24 ?_
      refine lv_iload_n hx hb dX10_lastWire_27 rfl (lv_at hl 3 rfl) ?_
      obtain ⟨v28, hv, hF⟩ := ob hF
      refine k_ld C0 M hv dX10_lastWire_28 ?_
      refine lv_aload_n hx hb dX10_lastWire_29 rfl (lv_at hl 0 rfl) ?_
      obtain ⟨v30, hv, hF⟩ := ob hF
      refine k_getI C0 M hv fl_X10_242 dX10_lastWire_30 ?_
      refine lv_icmp_ne (tgt := 53) hx hb dX10_lastWire_33 (by decide) (fun hc => ?_) (fun hc => ?_)
      · have hF := oi_f hc hF
        exact wX10_lastWire_53 ad A C0 M hr hF (lv_sub hl [0, 1, 2, 3] rfl) Kr Kh0
      · have hF := oi_t hc hF
        refine lv_aload_n hx hb dX10_lastWire_36 rfl (lv_at hl 0 rfl) ?_
        obtain ⟨v37, hv, hF⟩ := ob hF
        refine k_getP C0 M hv fl_X10_34 dX10_lastWire_37 ?_
        refine lv_iload_n hx hb dX10_lastWire_40 rfl (lv_at hl 3 rfl) ?_
        obtain ⟨v41, hv, hF⟩ := ob hF
        refine k_ld C0 M hv dX10_lastWire_41 ?_
        refine lv_aload_n hx hb dX10_lastWire_42 rfl (lv_at hl 0 rfl) ?_
        obtain ⟨v43, hv, hF⟩ := ob hF
        refine k_getI C0 M hv fl_X10_137 dX10_lastWire_43 ?_
        refine lv_icmp_gt (tgt := 53) hx hb dX10_lastWire_46 (by decide) (fun hc => ?_) (fun hc => ?_)
        · have hF := oi_t hc hF
          exact wX10_lastWire_53 ad A C0 M hr hF (lv_sub hl [0, 1, 2, 3] rfl) Kr Kh0
        · have hF := oi_f hc hF
          refine lv_iconst (v := (1 : Int32)) hx hb dX10_lastWire_49 (by decide) ?_
          refine lv_goto (tgt := 54) hx hb dX10_lastWire_50 (by decide) ?_
          exact wX10_lastWire_54 ad A C0 M hr hF (lv_sub hl [0, 1, 2, 3] rfl) Kr Kh0
set_option maxHeartbeats 4000000 in
set_option maxRecDepth 100000 in
theorem tX10_lastWire (l : Launch) (D : va_G) (cy : Nat → ClassId) (ad : Nat → Nat) (A : Nat → Prop) {S : MS} {a0 : Nat} {a1 : Int32} {r : Int32} (h : fX10_lastWire S a0 a1 = some r) : Met l yX10_lastWire [Cond.code yX10_lastWire cX10_lastWire 5 (some .int)] rmX10_lastWire (PcR D cy ad A S [.ref (ad a0), .int a1]) (QcS (some (.int r))) 0 0 (fun _ => False) := by
  refine met_R (by decide +kernel) cw_X10_lastWire (Nat.le_of_ble_eq_true rfl) ?_
  intro p e s m args below meth c ls C0 M hr hl
  have hl : lv_has ls 5 [(0, .ref (ad a0)), (1, .int a1)] := hl
  have key := lim_walk (step := sX10_lastWire S) (fun (q : (Nat × Int32 × Int32 × Int32)) (r9 : Int32) => ∀ (r : Int32), r9 = r → ((∀ (y0 : Nat) (y1 : Int32) (y2 : Int32) (y3 : Int32), q = (y0, y1, y2, y3) → ∀ (ls1 : Array Slot), lv_has ls1 5 [(0, .ref (ad y0)), (1, .int y1), (2, .int y2), (3, .int y3)] → W p l e rmX10_lastWire s m args below meth c s.heap [] 0 0 (MQ below (QcS (some (.int r))) args s 0 0 (fun _ => False)) (F0 m 5 ls1 [])))) ?_
  · unfold fX10_lastWire at h
    cases hs0 : bX10_lastWire_0 S a0 a1 with
    | none => rw [hs0] at h; cases h
    | some out =>
      rw [hs0] at h
      refine wX10_lastWire_0 ad A C0 M hr hs0 hl (fun r9 hr9 => ?_) ?_
      · subst hr9; exact Option.some.inj h
      · intro y0 y1 y2 y3 hq; subst hq; exact (key _ _ h _ rfl) _ _ _ _ rfl
  · intro q r9 out hst hre hin9
    intro r er; subst er
    refine ?_
    · intro y0 y1 y2 y3 hq ls1 hl
      subst hq
      exact wX10_lastWire_5 ad A C0 M hr hst hl hre (fun k0 k1 k2 k3 hk => (hin9 _ hk _ rfl) _ _ _ _ rfl)
set_option maxHeartbeats 4000000 in
set_option maxRecDepth 100000 in
theorem wX10_by_17 {p : Program} {l : Launch} {e : Env} {s : State} {m : MethodId} {args : Array Value} {below : List Frame} {meth : Method} {c : Code} {D : va_G} {cy : Nat → ClassId} (ad : Nat → Nat) (A : Nat → Prop) {r : Int32} {ls : Array Slot} {z0 : Int32} (C0 : CX p s m args meth c RX10 cX10_by 3 D cy) (hr : meth.sig.returnType = some .int) (hF : bX10_by_17 z0 = some r) (hl : lv_has ls 3 []) : W p l e rmX10_by s m args below meth c s.heap [] 0 0 (MQ below (QcS (some (.int r))) args s 0 0 (fun _ => False)) (F0 m 17 ls [.int z0]) := by
  unfold bX10_by_17 at hF
  obtain ⟨hx, hb, -, hown, -, hts, -⟩ := id C0
  obtain rfl := (Option.some.inj hF)
  exact rt_SI C0 hr dX10_by_17
set_option maxHeartbeats 4000000 in
set_option maxRecDepth 100000 in
theorem wX10_by_0 {p : Program} {l : Launch} {e : Env} {s : State} {m : MethodId} {args : Array Value} {below : List Frame} {meth : Method} {c : Code} {D : va_G} {cy : Nat → ClassId} (ad : Nat → Nat) (A : Nat → Prop) {r : Int32} {ls : Array Slot} {x0 : Int32} {x1 : Int32} (C0 : CX p s m args meth c RX10 cX10_by 3 D cy) (hr : meth.sig.returnType = some .int) (hF : bX10_by_0 x0 x1 = some r) (hl : lv_has ls 3 [(0, .int x0), (1, .int x1)]) : W p l e rmX10_by s m args below meth c s.heap [] 0 0 (MQ below (QcS (some (.int r))) args s 0 0 (fun _ => False)) (F0 m 0 ls []) := by
  unfold bX10_by_0 at hF
  obtain ⟨hx, hb, -, hown, -, hts, -⟩ := id C0
  refine lv_iload_n hx hb dX10_by_0 rfl (lv_at hl 0 rfl) ?_
  refine lv_iload_n hx hb dX10_by_1 rfl (lv_at hl 1 rfl) ?_
  obtain ⟨w2, hv, hF⟩ := ob hF
  refine lv_idiv hx hb dX10_by_2 (o_nz_ne hv) ?_
  obtain ⟨v3, hv, hF⟩ := ob hF
  have hv := vtI hv
  refine vtopi hv ?_
  refine lv_istore_n (lv' := [(2, .int v3), (0, .int x0), (1, .int x1)]) hx hb dX10_by_3 rfl hl (by decide) rfl (fun ls hl => ?_)
  refine lv_iload_n hx hb dX10_by_4 rfl (lv_at hl 1 rfl) ?_
  refine lv_iload_n hx hb dX10_by_5 rfl (lv_at hl 2 rfl) ?_
  obtain ⟨w6, hv, hF⟩ := ob hF
  refine lv_irem hx hb dX10_by_6 (o_nz_ne hv) ?_
  refine lv_if_ge (tgt := 16) hx hb dX10_by_7 (by decide) (fun hc => ?_) (fun hc => ?_)
  · have hF := oi_t hc hF
    refine lv_iload_n hx hb dX10_by_16 rfl (lv_at hl 0 rfl) ?_
    exact wX10_by_17 ad A C0 hr hF (lv_sub hl [] rfl)
  · have hF := oi_f hc hF
    refine lv_iload_n hx hb dX10_by_10 rfl (lv_at hl 0 rfl) ?_
    refine lv_iconst (v := (1 : Int32)) hx hb dX10_by_11 (by decide) ?_
    refine lv_isub hx hb dX10_by_12 ?_
    refine lv_goto (tgt := 17) hx hb dX10_by_13 (by decide) ?_
    exact wX10_by_17 ad A C0 hr hF (lv_sub hl [] rfl)
set_option maxHeartbeats 4000000 in
set_option maxRecDepth 100000 in
theorem tX10_by (l : Launch) (D : va_G) (cy : Nat → ClassId) (ad : Nat → Nat) {a0 : Int32} {a1 : Int32} {r : Int32} (h : fX10_by a0 a1 = some r) : Met l yX10_by [Cond.code yX10_by cX10_by 3 (some .int)] rmX10_by (PcS D cy [.int a0, .int a1]) (QcS (some (.int r))) 0 0 (fun _ => False) := by
  refine met_S (by decide +kernel) cw_X10_by (Nat.le_of_ble_eq_true rfl) ?_
  intro p e s m args below meth c ls C0 hr hl
  have hl : lv_has ls 3 [(0, .int a0), (1, .int a1)] := hl
  exact wX10_by_0 ad (fun _ => False) C0 hr h hl
set_option maxHeartbeats 4000000 in
set_option maxRecDepth 100000 in
theorem wX10_levelBy_22 {p : Program} {l : Launch} {e : Env} {s : State} {m : MethodId} {args : Array Value} {below : List Frame} {meth : Method} {c : Code} {D : va_G} {cy : Nat → ClassId} (ad : Nat → Nat) (A : Nat → Prop) {S : MS} {r : Int32} {ls : Array Slot} {x0 : Nat} {x1 : Int32} {z0 : Int32} {z1 : Int32} (C0 : CX p s m args meth c RX10 cX10_levelBy 4 D cy) (M : MW D cy ad A S s.heap) (hr : meth.sig.returnType = some .int) (hF : bX10_levelBy_22 S x0 x1 z0 z1 = some r) (hl : lv_has ls 4 [(0, .ref (ad x0)), (1, .int x1)]) : W p l e rmX10_levelBy s m args below meth c s.heap [] 0 0 (MQ below (QcS (some (.int r))) args s 0 0 (fun _ => False)) (F0 m 22 ls [.int z1, .int z0]) := by
  unfold bX10_levelBy_22 at hF
  obtain ⟨hx, hb, -, hown, -, hts, -⟩ := id C0
  refine lv_iadd hx hb dX10_levelBy_22 ?_
  refine lv_aload_n hx hb dX10_levelBy_23 rfl (lv_at hl 0 rfl) ?_
  obtain ⟨v24, hv, hF⟩ := ob hF
  refine k_getP C0 M hv fl_X10_19 dX10_levelBy_24 ?_
  refine lv_iload_n hx hb dX10_levelBy_27 rfl (lv_at hl 1 rfl) ?_
  obtain ⟨v28, hv, hF⟩ := ob hF
  refine k_ld C0 M hv dX10_levelBy_28 ?_
  refine lv_bipush (v := (12 : Int32)) hx hb dX10_levelBy_29 (by decide) ?_
  refine lv_imul hx hb dX10_levelBy_31 ?_
  refine lv_bipush (v := (100 : Int32)) hx hb dX10_levelBy_32 (by decide) ?_
  obtain ⟨v34, hcl, hF⟩ := ob hF
  refine go_SI (r_S (rest := [.int (z0 + z1)]) (As := [.int (v28 * (12 : Int32)), .int (100 : Int32)]) C0 cb_X10_178 (tX10_by l D cy ad hcl) (pre_S C0) hl dX10_levelBy_34 rfl (Nat.le_of_ble_eq_true rfl) ⟨rfl, rfl⟩ ⟨Nat.le_of_ble_eq_true rfl, Nat.le_of_ble_eq_true rfl⟩ ⟨Nat.le_of_ble_eq_true rfl, Nat.le_of_ble_eq_true rfl⟩ rfl) ?_
  refine lv_iadd hx hb dX10_levelBy_37 ?_
  obtain rfl := (Option.some.inj hF)
  exact rt_SI C0 hr dX10_levelBy_38
set_option maxHeartbeats 4000000 in
set_option maxRecDepth 100000 in
theorem wX10_levelBy_0 {p : Program} {l : Launch} {e : Env} {s : State} {m : MethodId} {args : Array Value} {below : List Frame} {meth : Method} {c : Code} {D : va_G} {cy : Nat → ClassId} (ad : Nat → Nat) (A : Nat → Prop) {S : MS} {r : Int32} {ls : Array Slot} {x0 : Nat} {x1 : Int32} {x2 : Int32} (C0 : CX p s m args meth c RX10 cX10_levelBy 4 D cy) (M : MW D cy ad A S s.heap) (hr : meth.sig.returnType = some .int) (hF : bX10_levelBy_0 S x0 x1 x2 = some r) (hl : lv_has ls 4 [(0, .ref (ad x0)), (1, .int x1), (2, .int x2)]) : W p l e rmX10_levelBy s m args below meth c s.heap [] 0 0 (MQ below (QcS (some (.int r))) args s 0 0 (fun _ => False)) (F0 m 0 ls []) := by
  unfold bX10_levelBy_0 at hF
  obtain ⟨hx, hb, -, hown, -, hts, -⟩ := id C0
  refine lv_iload_n hx hb dX10_levelBy_0 rfl (lv_at hl 2 rfl) ?_
  refine lv_bipush (v := (100 : Int32)) hx hb dX10_levelBy_1 (by decide) ?_
  refine lv_idiv hx hb dX10_levelBy_3 (by decide) ?_
  obtain ⟨v4, hv, hF⟩ := ob hF
  have hv := vtI hv
  refine vtopi hv ?_
  refine lv_istore_n (lv' := [(3, .int v4), (0, .ref (ad x0)), (1, .int x1), (2, .int x2)]) hx hb dX10_levelBy_4 rfl hl (by decide) rfl (fun ls hl => ?_)
  refine lv_iload_n hx hb dX10_levelBy_5 rfl (lv_at hl 0 rfl) ?_
  refine lv_iload_n hx hb dX10_levelBy_6 rfl (lv_at hl 0 rfl) ?_
  refine lv_sipush (v := (500 : Int32)) hx hb dX10_levelBy_7 (by decide) ?_
  refine lv_icmp_ge (tgt := 19) hx hb dX10_levelBy_10 (by decide) (fun hc => ?_) (fun hc => ?_)
  · have hF := oi_t hc hF
    refine lv_sipush (v := (9000 : Int32)) hx hb dX10_levelBy_19 (by decide) ?_
    exact wX10_levelBy_22 ad A C0 M hr hF (lv_sub hl [1, 2] rfl)
  · have hF := oi_f hc hF
    refine lv_sipush (v := (10000 : Int32)) hx hb dX10_levelBy_13 (by decide) ?_
    refine lv_goto (tgt := 22) hx hb dX10_levelBy_16 (by decide) ?_
    exact wX10_levelBy_22 ad A C0 M hr hF (lv_sub hl [1, 2] rfl)
set_option maxHeartbeats 4000000 in
set_option maxRecDepth 100000 in
theorem tX10_levelBy (l : Launch) (D : va_G) (cy : Nat → ClassId) (ad : Nat → Nat) (A : Nat → Prop) {S : MS} {a0 : Nat} {a1 : Int32} {a2 : Int32} {r : Int32} (h : fX10_levelBy S a0 a1 a2 = some r) : Met l yX10_levelBy [Cond.code yX10_levelBy cX10_levelBy 4 (some .int)] rmX10_levelBy (PcR D cy ad A S [.ref (ad a0), .int a1, .int a2]) (QcS (some (.int r))) 0 0 (fun _ => False) := by
  refine met_R (by decide +kernel) cw_X10_levelBy (Nat.le_of_ble_eq_true rfl) ?_
  intro p e s m args below meth c ls C0 M hr hl
  have hl : lv_has ls 4 [(0, .ref (ad a0)), (1, .int a1), (2, .int a2)] := hl
  exact wX10_levelBy_0 ad A C0 M hr h hl
set_option maxHeartbeats 4000000 in
set_option maxRecDepth 100000 in
theorem wX10_far_0 {p : Program} {l : Launch} {e : Env} {s : State} {m : MethodId} {args : Array Value} {below : List Frame} {meth : Method} {c : Code} {D : va_G} {cy : Nat → ClassId} (ad : Nat → Nat) (A : Nat → Prop) {r : Int32} {ls : Array Slot} {x0 : Int32} {x1 : Int32} (C0 : CX p s m args meth c RX10 cX10_far 4 D cy) (hr : meth.sig.returnType = some .int) (hF : bX10_far_0 x0 x1 = some r) (hl : lv_has ls 4 [(0, .int x0), (1, .int x1)]) : W p l e rmX10_far s m args below meth c s.heap [] 0 0 (MQ below (QcS (some (.int r))) args s 0 0 (fun _ => False)) (F0 m 0 ls []) := by
  unfold bX10_far_0 at hF
  obtain ⟨hx, hb, -, hown, -, hts, -⟩ := id C0
  refine lv_iload_n hx hb dX10_far_0 rfl (lv_at hl 0 rfl) ?_
  refine lv_bipush (v := (12 : Int32)) hx hb dX10_far_1 (by decide) ?_
  refine lv_irem hx hb dX10_far_3 (by decide) ?_
  refine lv_iload_n hx hb dX10_far_4 rfl (lv_at hl 1 rfl) ?_
  refine lv_bipush (v := (12 : Int32)) hx hb dX10_far_5 (by decide) ?_
  refine lv_irem hx hb dX10_far_7 (by decide) ?_
  refine lv_isub hx hb dX10_far_8 ?_
  obtain ⟨v9, hv, hF⟩ := ob hF
  have hv := vtI hv
  refine vtopi hv ?_
  refine lv_istore_n (lv' := [(2, .int v9), (0, .int x0), (1, .int x1)]) hx hb dX10_far_9 rfl hl (by decide) rfl (fun ls hl => ?_)
  refine lv_iload_n hx hb dX10_far_10 rfl (lv_at hl 1 rfl) ?_
  refine lv_bipush (v := (12 : Int32)) hx hb dX10_far_11 (by decide) ?_
  refine lv_idiv hx hb dX10_far_13 (by decide) ?_
  refine lv_iload_n hx hb dX10_far_14 rfl (lv_at hl 2 rfl) ?_
  refine lv_bipush (v := (12 : Int32)) hx hb dX10_far_15 (by decide) ?_
  refine lv_idiv hx hb dX10_far_17 (by decide) ?_
  refine lv_isub hx hb dX10_far_18 ?_
  obtain ⟨v19, hv, hF⟩ := ob hF
  have hv := vtI hv
  refine vtopi hv ?_
  refine lv_istore_n (lv' := [(3, .int v19), (2, .int v9), (0, .int x0), (1, .int x1)]) hx hb dX10_far_19 rfl hl (by decide) rfl (fun ls hl => ?_)
  refine lv_iload_n hx hb dX10_far_20 rfl (lv_at hl 1 rfl) ?_
  refine lv_iload_n hx hb dX10_far_21 rfl (lv_at hl 1 rfl) ?_
  refine lv_imul hx hb dX10_far_22 ?_
  refine lv_iload_n hx hb dX10_far_23 rfl (lv_at hl 0 rfl) ?_
  refine lv_iload_n hx hb dX10_far_24 rfl (lv_at hl 0 rfl) ?_
  refine lv_imul hx hb dX10_far_25 ?_
  refine lv_iadd hx hb dX10_far_26 ?_
  obtain rfl := (Option.some.inj hF)
  exact rt_SI C0 hr dX10_far_27
set_option maxHeartbeats 4000000 in
set_option maxRecDepth 100000 in
theorem tX10_far (l : Launch) (D : va_G) (cy : Nat → ClassId) (ad : Nat → Nat) {a0 : Int32} {a1 : Int32} {r : Int32} (h : fX10_far a0 a1 = some r) : Met l yX10_far [Cond.code yX10_far cX10_far 4 (some .int)] rmX10_far (PcS D cy [.int a0, .int a1]) (QcS (some (.int r))) 0 0 (fun _ => False) := by
  refine met_S (by decide +kernel) cw_X10_far (Nat.le_of_ble_eq_true rfl) ?_
  intro p e s m args below meth c ls C0 hr hl
  have hl : lv_has ls 4 [(0, .int a0), (1, .int a1)] := hl
  exact wX10_far_0 ad (fun _ => False) C0 hr h hl
set_option maxHeartbeats 4000000 in
set_option maxRecDepth 100000 in
theorem wX10_guessOf_0 {p : Program} {l : Launch} {e : Env} {s : State} {m : MethodId} {args : Array Value} {below : List Frame} {meth : Method} {c : Code} {D : va_G} {cy : Nat → ClassId} (ad : Nat → Nat) (A : Nat → Prop) {S : MS} {r : Int32} {out : (((Nat × Int32 × Int32 × Int32 × Int32 × Int32) ⊕ (Nat × Int32 × Int32 × Int32 × Int32 × Int32 × Int32)) ⊕ Int32)} {ls : Array Slot} {x0 : Nat} {x1 : Int32} (C0 : CX p s m args meth c RX10 cX10_guessOf 10 D cy) (M : MW D cy ad A S s.heap) (hr : meth.sig.returnType = some .int) (hF : bX10_guessOf_0 S x0 x1 = some out) (hl : lv_has ls 10 [(0, .ref (ad x0)), (1, .int x1)]) (Kr : ∀ r9, out = .inr r9 → r9 = r) (Kh0 : ∀ (y0 : Nat) (y1 : Int32) (y2 : Int32) (y3 : Int32) (y4 : Int32) (y5 : Int32), out = .inl (.inl (y0, y1, y2, y3, y4, y5)) → ∀ (ls1 : Array Slot), lv_has ls1 10 [(0, .ref (ad y0)), (2, .int y1), (3, .int y2), (4, .int y3), (5, .int y4), (6, .int y5)] → W p l e rmX10_guessOf s m args below meth c s.heap [] 0 0 (MQ below (QcS (some (.int r))) args s 0 0 (fun _ => False)) (F0 m 20 ls1 [])) (Kh1 : ∀ (y0 : Nat) (y1 : Int32) (y2 : Int32) (y3 : Int32) (y4 : Int32) (y5 : Int32) (y6 : Int32), out = .inl (.inr (y0, y1, y2, y3, y4, y5, y6)) → ∀ (ls1 : Array Slot), lv_has ls1 10 [(0, .ref (ad y0)), (2, .int y1), (3, .int y2), (4, .int y3), (5, .int y4), (7, .int y5), (8, .int y6)] → W p l e rmX10_guessOf s m args below meth c s.heap [] 0 0 (MQ below (QcS (some (.int r))) args s 0 0 (fun _ => False)) (F0 m 38 ls1 [])) : W p l e rmX10_guessOf s m args below meth c s.heap [] 0 0 (MQ below (QcS (some (.int r))) args s 0 0 (fun _ => False)) (F0 m 0 ls []) := by
  unfold bX10_guessOf_0 at hF
  obtain ⟨hx, hb, -, hown, -, hts, -⟩ := id C0
  refine lv_aload_n hx hb dX10_guessOf_0 rfl (lv_at hl 0 rfl) ?_
  obtain ⟨v1, hv, hF⟩ := ob hF
  refine k_getP C0 M hv fl_X10_28 dX10_guessOf_1 ?_
  refine lv_iload_n hx hb dX10_guessOf_4 rfl (lv_at hl 1 rfl) ?_
  obtain ⟨v5, hv, hF⟩ := ob hF
  refine k_ld C0 M hv dX10_guessOf_5 ?_
  refine lv_istore_n (lv' := [(2, .int v5), (0, .ref (ad x0)), (1, .int x1)]) hx hb dX10_guessOf_6 rfl hl (by decide) rfl (fun ls hl => ?_)
  refine lv_iconst (v := (0 : Int32)) hx hb dX10_guessOf_7 (by decide) ?_
  refine lv_istore_n (lv' := [(3, .int (0 : Int32)), (2, .int v5), (0, .ref (ad x0)), (1, .int x1)]) hx hb dX10_guessOf_8 rfl hl (by decide) rfl (fun ls hl => ?_)
  refine lv_iconst (v := (0 : Int32)) hx hb dX10_guessOf_9 (by decide) ?_
  refine lv_istore (lv' := [(4, .int (0 : Int32)), (3, .int (0 : Int32)), (2, .int v5), (0, .ref (ad x0)), (1, .int x1)]) hx hb dX10_guessOf_10 hl (by decide) rfl (fun ls hl => ?_)
  refine lv_iconst (v := (1 : Int32)) hx hb dX10_guessOf_12 (by decide) ?_
  refine lv_iload_n hx hb dX10_guessOf_13 rfl (lv_at hl 2 rfl) ?_
  refine lv_ishl hx hb dX10_guessOf_14 ?_
  obtain ⟨v15, hv, hF⟩ := ob hF
  have hv := vtI hv
  refine vtopi hv ?_
  refine lv_istore (lv' := [(5, .int v15), (4, .int (0 : Int32)), (3, .int (0 : Int32)), (2, .int v5), (0, .ref (ad x0)), (1, .int x1)]) hx hb dX10_guessOf_15 hl (by decide) rfl (fun ls hl => ?_)
  refine lv_iconst (v := (1 : Int32)) hx hb dX10_guessOf_17 (by decide) ?_
  refine lv_istore (lv' := [(6, .int (1 : Int32)), (5, .int v15), (4, .int (0 : Int32)), (3, .int (0 : Int32)), (2, .int v5), (0, .ref (ad x0)), (1, .int x1)]) hx hb dX10_guessOf_18 hl (by decide) rfl (fun ls hl => ?_)
  exact Kh0 _ _ _ _ _ _ (Option.some.inj hF).symm _ (lv_sub hl [5, 4, 3, 2, 1, 0] rfl)
set_option maxHeartbeats 4000000 in
set_option maxRecDepth 100000 in
theorem wX10_guessOf_220 {p : Program} {l : Launch} {e : Env} {s : State} {m : MethodId} {args : Array Value} {below : List Frame} {meth : Method} {c : Code} {D : va_G} {cy : Nat → ClassId} (ad : Nat → Nat) (A : Nat → Prop) {S : MS} {r : Int32} {out : (((Nat × Int32 × Int32 × Int32 × Int32 × Int32) ⊕ (Nat × Int32 × Int32 × Int32 × Int32 × Int32 × Int32)) ⊕ Int32)} {ls : Array Slot} {z0 : Int32} (C0 : CX p s m args meth c RX10 cX10_guessOf 10 D cy) (M : MW D cy ad A S s.heap) (hr : meth.sig.returnType = some .int) (hF : bX10_guessOf_220 S z0 = some out) (hl : lv_has ls 10 []) (Kr : ∀ r9, out = .inr r9 → r9 = r) (Kh0 : ∀ (y0 : Nat) (y1 : Int32) (y2 : Int32) (y3 : Int32) (y4 : Int32) (y5 : Int32), out = .inl (.inl (y0, y1, y2, y3, y4, y5)) → ∀ (ls1 : Array Slot), lv_has ls1 10 [(0, .ref (ad y0)), (2, .int y1), (3, .int y2), (4, .int y3), (5, .int y4), (6, .int y5)] → W p l e rmX10_guessOf s m args below meth c s.heap [] 0 0 (MQ below (QcS (some (.int r))) args s 0 0 (fun _ => False)) (F0 m 20 ls1 [])) (Kh1 : ∀ (y0 : Nat) (y1 : Int32) (y2 : Int32) (y3 : Int32) (y4 : Int32) (y5 : Int32) (y6 : Int32), out = .inl (.inr (y0, y1, y2, y3, y4, y5, y6)) → ∀ (ls1 : Array Slot), lv_has ls1 10 [(0, .ref (ad y0)), (2, .int y1), (3, .int y2), (4, .int y3), (5, .int y4), (7, .int y5), (8, .int y6)] → W p l e rmX10_guessOf s m args below meth c s.heap [] 0 0 (MQ below (QcS (some (.int r))) args s 0 0 (fun _ => False)) (F0 m 38 ls1 [])) : W p l e rmX10_guessOf s m args below meth c s.heap [] 0 0 (MQ below (QcS (some (.int r))) args s 0 0 (fun _ => False)) (F0 m 220 ls [.int z0]) := by
  unfold bX10_guessOf_220 at hF
  obtain ⟨hx, hb, -, hown, -, hts, -⟩ := id C0
  obtain rfl := (Kr _ (Option.some.inj hF).symm)
  exact rt_SI C0 hr dX10_guessOf_220
set_option maxHeartbeats 4000000 in
set_option maxRecDepth 100000 in
theorem wX10_guessOf_203 {p : Program} {l : Launch} {e : Env} {s : State} {m : MethodId} {args : Array Value} {below : List Frame} {meth : Method} {c : Code} {D : va_G} {cy : Nat → ClassId} (ad : Nat → Nat) (A : Nat → Prop) {S : MS} {r : Int32} {out : (((Nat × Int32 × Int32 × Int32 × Int32 × Int32) ⊕ (Nat × Int32 × Int32 × Int32 × Int32 × Int32 × Int32)) ⊕ Int32)} {ls : Array Slot} {x3 : Int32} {x4 : Int32} (C0 : CX p s m args meth c RX10 cX10_guessOf 10 D cy) (M : MW D cy ad A S s.heap) (hr : meth.sig.returnType = some .int) (hF : bX10_guessOf_203 S x3 x4 = some out) (hl : lv_has ls 10 [(3, .int x3), (4, .int x4)]) (Kr : ∀ r9, out = .inr r9 → r9 = r) (Kh0 : ∀ (y0 : Nat) (y1 : Int32) (y2 : Int32) (y3 : Int32) (y4 : Int32) (y5 : Int32), out = .inl (.inl (y0, y1, y2, y3, y4, y5)) → ∀ (ls1 : Array Slot), lv_has ls1 10 [(0, .ref (ad y0)), (2, .int y1), (3, .int y2), (4, .int y3), (5, .int y4), (6, .int y5)] → W p l e rmX10_guessOf s m args below meth c s.heap [] 0 0 (MQ below (QcS (some (.int r))) args s 0 0 (fun _ => False)) (F0 m 20 ls1 [])) (Kh1 : ∀ (y0 : Nat) (y1 : Int32) (y2 : Int32) (y3 : Int32) (y4 : Int32) (y5 : Int32) (y6 : Int32), out = .inl (.inr (y0, y1, y2, y3, y4, y5, y6)) → ∀ (ls1 : Array Slot), lv_has ls1 10 [(0, .ref (ad y0)), (2, .int y1), (3, .int y2), (4, .int y3), (5, .int y4), (7, .int y5), (8, .int y6)] → W p l e rmX10_guessOf s m args below meth c s.heap [] 0 0 (MQ below (QcS (some (.int r))) args s 0 0 (fun _ => False)) (F0 m 38 ls1 [])) : W p l e rmX10_guessOf s m args below meth c s.heap [] 0 0 (MQ below (QcS (some (.int r))) args s 0 0 (fun _ => False)) (F0 m 203 ls []) := by
  unfold bX10_guessOf_203 at hF
  obtain ⟨hx, hb, -, hown, -, hts, -⟩ := id C0
  refine lv_iload hx hb dX10_guessOf_203 (lv_at hl 1 rfl) ?_
  refine lv_if_ne (tgt := 214) hx hb dX10_guessOf_205 (by decide) (fun hc => ?_) (fun hc => ?_)
  · have hF := oi_f hc hF
    refine lv_iload_n hx hb dX10_guessOf_214 rfl (lv_at hl 0 rfl) ?_
    refine lv_iload hx hb dX10_guessOf_215 (lv_at hl 1 rfl) ?_
    obtain ⟨v217, hcl, hF⟩ := ob hF
    refine go_SI (r_S (rest := []) (As := [.int x3, .int x4]) C0 cb_X10_178 (tX10_by l D cy ad hcl) (pre_S C0) hl dX10_guessOf_217 rfl (Nat.le_of_ble_eq_true rfl) ⟨rfl, rfl⟩ ⟨Nat.le_of_ble_eq_true rfl, Nat.le_of_ble_eq_true rfl⟩ ⟨Nat.le_of_ble_eq_true rfl, Nat.le_of_ble_eq_true rfl⟩ rfl) ?_
    exact wX10_guessOf_220 ad A C0 M hr hF (lv_sub hl [] rfl) Kr Kh0 Kh1
  · have hF := oi_t hc hF
    refine lv_sipush (v := (10000 : Int32)) hx hb dX10_guessOf_208 (by decide) ?_
    refine lv_goto (tgt := 220) hx hb dX10_guessOf_211 (by decide) ?_
    exact wX10_guessOf_220 ad A C0 M hr hF (lv_sub hl [] rfl) Kr Kh0 Kh1
set_option maxHeartbeats 4000000 in
set_option maxRecDepth 100000 in
theorem wX10_guessOf_20 {p : Program} {l : Launch} {e : Env} {s : State} {m : MethodId} {args : Array Value} {below : List Frame} {meth : Method} {c : Code} {D : va_G} {cy : Nat → ClassId} (ad : Nat → Nat) (A : Nat → Prop) {S : MS} {r : Int32} {out : (((Nat × Int32 × Int32 × Int32 × Int32 × Int32) ⊕ (Nat × Int32 × Int32 × Int32 × Int32 × Int32 × Int32)) ⊕ Int32)} {ls : Array Slot} {x0 : Nat} {x2 : Int32} {x3 : Int32} {x4 : Int32} {x5 : Int32} {x6 : Int32} (C0 : CX p s m args meth c RX10 cX10_guessOf 10 D cy) (M : MW D cy ad A S s.heap) (hr : meth.sig.returnType = some .int) (hF : bX10_guessOf_20 S x0 x2 x3 x4 x5 x6 = some out) (hl : lv_has ls 10 [(0, .ref (ad x0)), (2, .int x2), (3, .int x3), (4, .int x4), (5, .int x5), (6, .int x6)]) (Kr : ∀ r9, out = .inr r9 → r9 = r) (Kh0 : ∀ (y0 : Nat) (y1 : Int32) (y2 : Int32) (y3 : Int32) (y4 : Int32) (y5 : Int32), out = .inl (.inl (y0, y1, y2, y3, y4, y5)) → ∀ (ls1 : Array Slot), lv_has ls1 10 [(0, .ref (ad y0)), (2, .int y1), (3, .int y2), (4, .int y3), (5, .int y4), (6, .int y5)] → W p l e rmX10_guessOf s m args below meth c s.heap [] 0 0 (MQ below (QcS (some (.int r))) args s 0 0 (fun _ => False)) (F0 m 20 ls1 [])) (Kh1 : ∀ (y0 : Nat) (y1 : Int32) (y2 : Int32) (y3 : Int32) (y4 : Int32) (y5 : Int32) (y6 : Int32), out = .inl (.inr (y0, y1, y2, y3, y4, y5, y6)) → ∀ (ls1 : Array Slot), lv_has ls1 10 [(0, .ref (ad y0)), (2, .int y1), (3, .int y2), (4, .int y3), (5, .int y4), (7, .int y5), (8, .int y6)] → W p l e rmX10_guessOf s m args below meth c s.heap [] 0 0 (MQ below (QcS (some (.int r))) args s 0 0 (fun _ => False)) (F0 m 38 ls1 [])) : W p l e rmX10_guessOf s m args below meth c s.heap [] 0 0 (MQ below (QcS (some (.int r))) args s 0 0 (fun _ => False)) (F0 m 20 ls []) := by
  unfold bX10_guessOf_20 at hF
  obtain ⟨hx, hb, -, hown, -, hts, -⟩ := id C0
  refine lv_iload hx hb dX10_guessOf_20 (lv_at hl 5 rfl) ?_
  refine lv_if_eq (tgt := 203) hx hb dX10_guessOf_22 (by decide) (fun hc => ?_) (fun hc => ?_)
  · have hF := oi_t hc hF
    exact wX10_guessOf_203 ad A C0 M hr hF (lv_sub hl [2, 3] rfl) Kr Kh0 Kh1
  · have hF := oi_f hc hF
    refine lv_iload hx hb dX10_guessOf_25 (lv_at hl 3 rfl) ?_
    refine lv_iconst (v := (3 : Int32)) hx hb dX10_guessOf_27 (by decide) ?_
    refine lv_icmp_ge (tgt := 203) hx hb dX10_guessOf_28 (by decide) (fun hc => ?_) (fun hc => ?_)
    · have hF := oi_t hc hF
      exact wX10_guessOf_203 ad A C0 M hr hF (lv_sub hl [2, 3] rfl) Kr Kh0 Kh1
    · have hF := oi_f hc hF
      refine lv_bipush (v := (-9 : Int32)) hx hb dX10_guessOf_31 (by decide) ?_
      refine lv_istore (lv' := [(7, .int (-9 : Int32)), (0, .ref (ad x0)), (2, .int x2), (3, .int x3), (4, .int x4), (5, .int x5), (6, .int x6)]) hx hb dX10_guessOf_33 hl (by decide) rfl (fun ls hl => ?_)
      refine lv_iconst (v := (0 : Int32)) hx hb dX10_guessOf_35 (by decide) ?_
      refine lv_istore (lv' := [(8, .int (0 : Int32)), (7, .int (-9 : Int32)), (0, .ref (ad x0)), (2, .int x2), (3, .int x3), (4, .int x4), (5, .int x5), (6, .int x6)]) hx hb dX10_guessOf_36 hl (by decide) rfl (fun ls hl => ?_)
      exact Kh1 _ _ _ _ _ _ _ (Option.some.inj hF).symm _ (lv_sub hl [2, 3, 4, 5, 6, 1, 0] rfl)
set_option maxHeartbeats 4000000 in
set_option maxRecDepth 100000 in
theorem wX10_guessOf_142 {p : Program} {l : Launch} {e : Env} {s : State} {m : MethodId} {args : Array Value} {below : List Frame} {meth : Method} {c : Code} {D : va_G} {cy : Nat → ClassId} (ad : Nat → Nat) (A : Nat → Prop) {S : MS} {r : Int32} {out : (((Nat × Int32 × Int32 × Int32 × Int32 × Int32) ⊕ (Nat × Int32 × Int32 × Int32 × Int32 × Int32 × Int32)) ⊕ Int32)} {ls : Array Slot} {x0 : Nat} {x2 : Int32} {x3 : Int32} {x4 : Int32} {x5 : Int32} {x8 : Int32} {z0 : Int32} (C0 : CX p s m args meth c RX10 cX10_guessOf 10 D cy) (M : MW D cy ad A S s.heap) (hr : meth.sig.returnType = some .int) (hF : bX10_guessOf_142 S x0 x2 x3 x4 x5 x8 z0 = some out) (hl : lv_has ls 10 [(0, .ref (ad x0)), (2, .int x2), (3, .int x3), (4, .int x4), (5, .int x5), (8, .int x8)]) (Kr : ∀ r9, out = .inr r9 → r9 = r) (Kh0 : ∀ (y0 : Nat) (y1 : Int32) (y2 : Int32) (y3 : Int32) (y4 : Int32) (y5 : Int32), out = .inl (.inl (y0, y1, y2, y3, y4, y5)) → ∀ (ls1 : Array Slot), lv_has ls1 10 [(0, .ref (ad y0)), (2, .int y1), (3, .int y2), (4, .int y3), (5, .int y4), (6, .int y5)] → W p l e rmX10_guessOf s m args below meth c s.heap [] 0 0 (MQ below (QcS (some (.int r))) args s 0 0 (fun _ => False)) (F0 m 20 ls1 [])) (Kh1 : ∀ (y0 : Nat) (y1 : Int32) (y2 : Int32) (y3 : Int32) (y4 : Int32) (y5 : Int32) (y6 : Int32), out = .inl (.inr (y0, y1, y2, y3, y4, y5, y6)) → ∀ (ls1 : Array Slot), lv_has ls1 10 [(0, .ref (ad y0)), (2, .int y1), (3, .int y2), (4, .int y3), (5, .int y4), (7, .int y5), (8, .int y6)] → W p l e rmX10_guessOf s m args below meth c s.heap [] 0 0 (MQ below (QcS (some (.int r))) args s 0 0 (fun _ => False)) (F0 m 38 ls1 [])) : W p l e rmX10_guessOf s m args below meth c s.heap [] 0 0 (MQ below (QcS (some (.int r))) args s 0 0 (fun _ => False)) (F0 m 142 ls [.int z0]) := by
  unfold bX10_guessOf_142 at hF
  obtain ⟨hx, hb, -, hown, -, hts, -⟩ := id C0
  refine lv_istore (lv' := [(7, .int z0), (0, .ref (ad x0)), (2, .int x2), (3, .int x3), (4, .int x4), (5, .int x5), (8, .int x8)]) hx hb dX10_guessOf_142 hl (by decide) rfl (fun ls hl => ?_)
  obtain ⟨v144, hv, hF⟩ := ob hF
  refine lv_iinc (v := v144) (lv' := [(8, .int v144), (7, .int z0), (0, .ref (ad x0)), (2, .int x2), (3, .int x3), (4, .int x4), (5, .int x5)]) hx hb dX10_guessOf_144 hl (k := 6) rfl (by rw [← vtI hv]; rfl) (by decide) rfl (fun ls hl => ?_)
  refine lv_goto (tgt := 38) hx hb dX10_guessOf_147 (by decide) ?_
  exact Kh1 _ _ _ _ _ _ _ (Option.some.inj hF).symm _ (lv_sub hl [2, 3, 4, 5, 6, 1, 0] rfl)
set_option maxHeartbeats 4000000 in
set_option maxRecDepth 100000 in
theorem wX10_guessOf_135 {p : Program} {l : Launch} {e : Env} {s : State} {m : MethodId} {args : Array Value} {below : List Frame} {meth : Method} {c : Code} {D : va_G} {cy : Nat → ClassId} (ad : Nat → Nat) (A : Nat → Prop) {S : MS} {r : Int32} {out : (((Nat × Int32 × Int32 × Int32 × Int32 × Int32) ⊕ (Nat × Int32 × Int32 × Int32 × Int32 × Int32 × Int32)) ⊕ Int32)} {ls : Array Slot} {x0 : Nat} {x2 : Int32} {x3 : Int32} {x4 : Int32} {x5 : Int32} {x8 : Int32} (C0 : CX p s m args meth c RX10 cX10_guessOf 10 D cy) (M : MW D cy ad A S s.heap) (hr : meth.sig.returnType = some .int) (hF : bX10_guessOf_135 S x0 x2 x3 x4 x5 x8 = some out) (hl : lv_has ls 10 [(0, .ref (ad x0)), (2, .int x2), (3, .int x3), (4, .int x4), (5, .int x5), (8, .int x8)]) (Kr : ∀ r9, out = .inr r9 → r9 = r) (Kh0 : ∀ (y0 : Nat) (y1 : Int32) (y2 : Int32) (y3 : Int32) (y4 : Int32) (y5 : Int32), out = .inl (.inl (y0, y1, y2, y3, y4, y5)) → ∀ (ls1 : Array Slot), lv_has ls1 10 [(0, .ref (ad y0)), (2, .int y1), (3, .int y2), (4, .int y3), (5, .int y4), (6, .int y5)] → W p l e rmX10_guessOf s m args below meth c s.heap [] 0 0 (MQ below (QcS (some (.int r))) args s 0 0 (fun _ => False)) (F0 m 20 ls1 [])) (Kh1 : ∀ (y0 : Nat) (y1 : Int32) (y2 : Int32) (y3 : Int32) (y4 : Int32) (y5 : Int32) (y6 : Int32), out = .inl (.inr (y0, y1, y2, y3, y4, y5, y6)) → ∀ (ls1 : Array Slot), lv_has ls1 10 [(0, .ref (ad y0)), (2, .int y1), (3, .int y2), (4, .int y3), (5, .int y4), (7, .int y5), (8, .int y6)] → W p l e rmX10_guessOf s m args below meth c s.heap [] 0 0 (MQ below (QcS (some (.int r))) args s 0 0 (fun _ => False)) (F0 m 38 ls1 [])) : W p l e rmX10_guessOf s m args below meth c s.heap [] 0 0 (MQ below (QcS (some (.int r))) args s 0 0 (fun _ => False)) (F0 m 135 ls []) := by
  unfold bX10_guessOf_135 at hF
  obtain ⟨hx, hb, -, hown, -, hts, -⟩ := id C0
  refine lv_iload hx hb dX10_guessOf_135 (lv_at hl 5 rfl) ?_
  refine lv_goto (tgt := 142) hx hb dX10_guessOf_137 (by decide) ?_
  exact wX10_guessOf_142 ad A C0 M hr hF (lv_sub hl [0, 1, 2, 3, 4, 5] rfl) Kr Kh0 Kh1
set_option maxHeartbeats 4000000 in
set_option maxRecDepth 100000 in
theorem wX10_guessOf_140 {p : Program} {l : Launch} {e : Env} {s : State} {m : MethodId} {args : Array Value} {below : List Frame} {meth : Method} {c : Code} {D : va_G} {cy : Nat → ClassId} (ad : Nat → Nat) (A : Nat → Prop) {S : MS} {r : Int32} {out : (((Nat × Int32 × Int32 × Int32 × Int32 × Int32) ⊕ (Nat × Int32 × Int32 × Int32 × Int32 × Int32 × Int32)) ⊕ Int32)} {ls : Array Slot} {x0 : Nat} {x2 : Int32} {x3 : Int32} {x4 : Int32} {x5 : Int32} {x7 : Int32} {x8 : Int32} (C0 : CX p s m args meth c RX10 cX10_guessOf 10 D cy) (M : MW D cy ad A S s.heap) (hr : meth.sig.returnType = some .int) (hF : bX10_guessOf_140 S x0 x2 x3 x4 x5 x7 x8 = some out) (hl : lv_has ls 10 [(0, .ref (ad x0)), (2, .int x2), (3, .int x3), (4, .int x4), (5, .int x5), (7, .int x7), (8, .int x8)]) (Kr : ∀ r9, out = .inr r9 → r9 = r) (Kh0 : ∀ (y0 : Nat) (y1 : Int32) (y2 : Int32) (y3 : Int32) (y4 : Int32) (y5 : Int32), out = .inl (.inl (y0, y1, y2, y3, y4, y5)) → ∀ (ls1 : Array Slot), lv_has ls1 10 [(0, .ref (ad y0)), (2, .int y1), (3, .int y2), (4, .int y3), (5, .int y4), (6, .int y5)] → W p l e rmX10_guessOf s m args below meth c s.heap [] 0 0 (MQ below (QcS (some (.int r))) args s 0 0 (fun _ => False)) (F0 m 20 ls1 [])) (Kh1 : ∀ (y0 : Nat) (y1 : Int32) (y2 : Int32) (y3 : Int32) (y4 : Int32) (y5 : Int32) (y6 : Int32), out = .inl (.inr (y0, y1, y2, y3, y4, y5, y6)) → ∀ (ls1 : Array Slot), lv_has ls1 10 [(0, .ref (ad y0)), (2, .int y1), (3, .int y2), (4, .int y3), (5, .int y4), (7, .int y5), (8, .int y6)] → W p l e rmX10_guessOf s m args below meth c s.heap [] 0 0 (MQ below (QcS (some (.int r))) args s 0 0 (fun _ => False)) (F0 m 38 ls1 [])) : W p l e rmX10_guessOf s m args below meth c s.heap [] 0 0 (MQ below (QcS (some (.int r))) args s 0 0 (fun _ => False)) (F0 m 140 ls []) := by
  unfold bX10_guessOf_140 at hF
  obtain ⟨hx, hb, -, hown, -, hts, -⟩ := id C0
  refine lv_iload hx hb dX10_guessOf_140 (lv_at hl 5 rfl) ?_
  exact wX10_guessOf_142 ad A C0 M hr hF (lv_sub hl [0, 1, 2, 3, 4, 6] rfl) Kr Kh0 Kh1
set_option maxHeartbeats 4000000 in
set_option maxRecDepth 100000 in
theorem wX10_guessOf_88 {p : Program} {l : Launch} {e : Env} {s : State} {m : MethodId} {args : Array Value} {below : List Frame} {meth : Method} {c : Code} {D : va_G} {cy : Nat → ClassId} (ad : Nat → Nat) (A : Nat → Prop) {S : MS} {r : Int32} {out : (((Nat × Int32 × Int32 × Int32 × Int32 × Int32) ⊕ (Nat × Int32 × Int32 × Int32 × Int32 × Int32 × Int32)) ⊕ Int32)} {ls : Array Slot} {x0 : Nat} {x2 : Int32} {x3 : Int32} {x4 : Int32} {x5 : Int32} {x7 : Int32} {x8 : Int32} {z0 : Int32} (C0 : CX p s m args meth c RX10 cX10_guessOf 10 D cy) (M : MW D cy ad A S s.heap) (hr : meth.sig.returnType = some .int) (hF : bX10_guessOf_88 S x0 x2 x3 x4 x5 x7 x8 z0 = some out) (hl : lv_has ls 10 [(0, .ref (ad x0)), (2, .int x2), (3, .int x3), (4, .int x4), (5, .int x5), (7, .int x7), (8, .int x8)]) (Kr : ∀ r9, out = .inr r9 → r9 = r) (Kh0 : ∀ (y0 : Nat) (y1 : Int32) (y2 : Int32) (y3 : Int32) (y4 : Int32) (y5 : Int32), out = .inl (.inl (y0, y1, y2, y3, y4, y5)) → ∀ (ls1 : Array Slot), lv_has ls1 10 [(0, .ref (ad y0)), (2, .int y1), (3, .int y2), (4, .int y3), (5, .int y4), (6, .int y5)] → W p l e rmX10_guessOf s m args below meth c s.heap [] 0 0 (MQ below (QcS (some (.int r))) args s 0 0 (fun _ => False)) (F0 m 20 ls1 [])) (Kh1 : ∀ (y0 : Nat) (y1 : Int32) (y2 : Int32) (y3 : Int32) (y4 : Int32) (y5 : Int32) (y6 : Int32), out = .inl (.inr (y0, y1, y2, y3, y4, y5, y6)) → ∀ (ls1 : Array Slot), lv_has ls1 10 [(0, .ref (ad y0)), (2, .int y1), (3, .int y2), (4, .int y3), (5, .int y4), (7, .int y5), (8, .int y6)] → W p l e rmX10_guessOf s m args below meth c s.heap [] 0 0 (MQ below (QcS (some (.int r))) args s 0 0 (fun _ => False)) (F0 m 38 ls1 [])) : W p l e rmX10_guessOf s m args below meth c s.heap [] 0 0 (MQ below (QcS (some (.int r))) args s 0 0 (fun _ => False)) (F0 m 88 ls [.int z0]) := by
  unfold bX10_guessOf_88 at hF
  obtain ⟨hx, hb, -, hown, -, hts, -⟩ := id C0
  refine lv_istore (lv' := [(9, .int z0), (0, .ref (ad x0)), (2, .int x2), (3, .int x3), (4, .int x4), (5, .int x5), (7, .int x7), (8, .int x8)]) hx hb dX10_guessOf_88 hl (by decide) rfl (fun ls hl => ?_)
  refine lv_iload hx hb dX10_guessOf_90 (lv_at hl 0 rfl) ?_
  refine lv_if_eq (tgt := 140) hx hb dX10_guessOf_92 (by decide) (fun hc => ?_) (fun hc => ?_)
  · have hF := oi_t hc hF
    exact wX10_guessOf_140 ad A C0 M hr hF (lv_sub hl [1, 2, 3, 4, 5, 6, 7] rfl) Kr Kh0 Kh1
  · have hF := oi_f hc hF
    refine lv_iload hx hb dX10_guessOf_95 (lv_at hl 6 rfl) ?_
    refine lv_if_lt (tgt := 135) hx hb dX10_guessOf_97 (by decide) (fun hc => ?_) (fun hc => ?_)
    · have hF := oi_t hc hF
      exact wX10_guessOf_135 ad A C0 M hr hF (lv_sub hl [1, 2, 3, 4, 5, 7] rfl) Kr Kh0 Kh1
    · have hF := oi_f hc hF
      refine lv_aload_n hx hb dX10_guessOf_100 rfl (lv_at hl 1 rfl) ?_
      obtain ⟨v101, hv, hF⟩ := ob hF
      refine k_getP C0 M hv fl_X10_49 dX10_guessOf_101 ?_
      refine lv_iload hx hb dX10_guessOf_104 (lv_at hl 7 rfl) ?_
      obtain ⟨v106, hv, hF⟩ := ob hF
      refine k_ld C0 M hv dX10_guessOf_106 ?_
      refine lv_aload_n hx hb dX10_guessOf_107 rfl (lv_at hl 1 rfl) ?_
      obtain ⟨v108, hv, hF⟩ := ob hF
      refine k_getP C0 M hv fl_X10_49 dX10_guessOf_108 ?_
      refine lv_iload_n hx hb dX10_guessOf_111 rfl (lv_at hl 2 rfl) ?_
      obtain ⟨v112, hv, hF⟩ := ob hF
      refine k_ld C0 M hv dX10_guessOf_112 ?_
      obtain ⟨v113, hcl, hF⟩ := ob hF
      refine go_SI (r_S (rest := []) (As := [.int v106, .int v112]) C0 cb_X10_248 (tX10_far l D cy ad hcl) (pre_S C0) hl dX10_guessOf_113 rfl (Nat.le_of_ble_eq_true rfl) ⟨rfl, rfl⟩ ⟨Nat.le_of_ble_eq_true rfl, Nat.le_of_ble_eq_true rfl⟩ ⟨Nat.le_of_ble_eq_true rfl, Nat.le_of_ble_eq_true rfl⟩ rfl) ?_
      refine lv_aload_n hx hb dX10_guessOf_116 rfl (lv_at hl 1 rfl) ?_
      obtain ⟨v117, hv, hF⟩ := ob hF
      refine k_getP C0 M hv fl_X10_49 dX10_guessOf_117 ?_
      refine lv_iload hx hb dX10_guessOf_120 (lv_at hl 6 rfl) ?_
      obtain ⟨v122, hv, hF⟩ := ob hF
      refine k_ld C0 M hv dX10_guessOf_122 ?_
      refine lv_aload_n hx hb dX10_guessOf_123 rfl (lv_at hl 1 rfl) ?_
      obtain ⟨v124, hv, hF⟩ := ob hF
      refine k_getP C0 M hv fl_X10_49 dX10_guessOf_124 ?_
      refine lv_iload_n hx hb dX10_guessOf_127 rfl (lv_at hl 2 rfl) ?_
      obtain ⟨v128, hv, hF⟩ := ob hF
      refine k_ld C0 M hv dX10_guessOf_128 ?_
      obtain ⟨v129, hcl, hF⟩ := ob hF
      refine go_SI (r_S (rest := [.int v113]) (As := [.int v122, .int v128]) C0 cb_X10_248 (tX10_far l D cy ad hcl) (pre_S C0) hl dX10_guessOf_129 rfl (Nat.le_of_ble_eq_true rfl) ⟨rfl, rfl⟩ ⟨Nat.le_of_ble_eq_true rfl, Nat.le_of_ble_eq_true rfl⟩ ⟨Nat.le_of_ble_eq_true rfl, Nat.le_of_ble_eq_true rfl⟩ rfl) ?_
      refine lv_icmp_ge (tgt := 140) hx hb dX10_guessOf_132 (by decide) (fun hc => ?_) (fun hc => ?_)
      · have hF := oi_t hc hF
        exact wX10_guessOf_140 ad A C0 M hr hF (lv_sub hl [1, 2, 3, 4, 5, 6, 7] rfl) Kr Kh0 Kh1
      · have hF := oi_f hc hF
        exact wX10_guessOf_135 ad A C0 M hr hF (lv_sub hl [1, 2, 3, 4, 5, 7] rfl) Kr Kh0 Kh1
set_option maxHeartbeats 4000000 in
set_option maxRecDepth 100000 in
theorem wX10_guessOf_87 {p : Program} {l : Launch} {e : Env} {s : State} {m : MethodId} {args : Array Value} {below : List Frame} {meth : Method} {c : Code} {D : va_G} {cy : Nat → ClassId} (ad : Nat → Nat) (A : Nat → Prop) {S : MS} {r : Int32} {out : (((Nat × Int32 × Int32 × Int32 × Int32 × Int32) ⊕ (Nat × Int32 × Int32 × Int32 × Int32 × Int32 × Int32)) ⊕ Int32)} {ls : Array Slot} {x0 : Nat} {x2 : Int32} {x3 : Int32} {x4 : Int32} {x5 : Int32} {x7 : Int32} {x8 : Int32} (C0 : CX p s m args meth c RX10 cX10_guessOf 10 D cy) (M : MW D cy ad A S s.heap) (hr : meth.sig.returnType = some .int) (hF : bX10_guessOf_87 S x0 x2 x3 x4 x5 x7 x8 = some out) (hl : lv_has ls 10 [(0, .ref (ad x0)), (2, .int x2), (3, .int x3), (4, .int x4), (5, .int x5), (7, .int x7), (8, .int x8)]) (Kr : ∀ r9, out = .inr r9 → r9 = r) (Kh0 : ∀ (y0 : Nat) (y1 : Int32) (y2 : Int32) (y3 : Int32) (y4 : Int32) (y5 : Int32), out = .inl (.inl (y0, y1, y2, y3, y4, y5)) → ∀ (ls1 : Array Slot), lv_has ls1 10 [(0, .ref (ad y0)), (2, .int y1), (3, .int y2), (4, .int y3), (5, .int y4), (6, .int y5)] → W p l e rmX10_guessOf s m args below meth c s.heap [] 0 0 (MQ below (QcS (some (.int r))) args s 0 0 (fun _ => False)) (F0 m 20 ls1 [])) (Kh1 : ∀ (y0 : Nat) (y1 : Int32) (y2 : Int32) (y3 : Int32) (y4 : Int32) (y5 : Int32) (y6 : Int32), out = .inl (.inr (y0, y1, y2, y3, y4, y5, y6)) → ∀ (ls1 : Array Slot), lv_has ls1 10 [(0, .ref (ad y0)), (2, .int y1), (3, .int y2), (4, .int y3), (5, .int y4), (7, .int y5), (8, .int y6)] → W p l e rmX10_guessOf s m args below meth c s.heap [] 0 0 (MQ below (QcS (some (.int r))) args s 0 0 (fun _ => False)) (F0 m 38 ls1 [])) : W p l e rmX10_guessOf s m args below meth c s.heap [] 0 0 (MQ below (QcS (some (.int r))) args s 0 0 (fun _ => False)) (F0 m 87 ls []) := by
  unfold bX10_guessOf_87 at hF
  obtain ⟨hx, hb, -, hown, -, hts, -⟩ := id C0
  refine lv_iconst (v := (0 : Int32)) hx hb dX10_guessOf_87 (by decide) ?_
  exact wX10_guessOf_88 ad A C0 M hr hF (lv_sub hl [0, 1, 2, 3, 4, 5, 6] rfl) Kr Kh0 Kh1
set_option maxHeartbeats 4000000 in
set_option maxRecDepth 100000 in
theorem wX10_guessOf_200 {p : Program} {l : Launch} {e : Env} {s : State} {m : MethodId} {args : Array Value} {below : List Frame} {meth : Method} {c : Code} {D : va_G} {cy : Nat → ClassId} (ad : Nat → Nat) (A : Nat → Prop) {S : MS} {r : Int32} {out : (((Nat × Int32 × Int32 × Int32 × Int32 × Int32) ⊕ (Nat × Int32 × Int32 × Int32 × Int32 × Int32 × Int32)) ⊕ Int32)} {ls : Array Slot} {x0 : Nat} {x2 : Int32} {x3 : Int32} {x4 : Int32} {x5 : Int32} {x6 : Int32} (C0 : CX p s m args meth c RX10 cX10_guessOf 10 D cy) (M : MW D cy ad A S s.heap) (hr : meth.sig.returnType = some .int) (hF : bX10_guessOf_200 S x0 x2 x3 x4 x5 x6 = some out) (hl : lv_has ls 10 [(0, .ref (ad x0)), (2, .int x2), (3, .int x3), (4, .int x4), (5, .int x5), (6, .int x6)]) (Kr : ∀ r9, out = .inr r9 → r9 = r) (Kh0 : ∀ (y0 : Nat) (y1 : Int32) (y2 : Int32) (y3 : Int32) (y4 : Int32) (y5 : Int32), out = .inl (.inl (y0, y1, y2, y3, y4, y5)) → ∀ (ls1 : Array Slot), lv_has ls1 10 [(0, .ref (ad y0)), (2, .int y1), (3, .int y2), (4, .int y3), (5, .int y4), (6, .int y5)] → W p l e rmX10_guessOf s m args below meth c s.heap [] 0 0 (MQ below (QcS (some (.int r))) args s 0 0 (fun _ => False)) (F0 m 20 ls1 [])) (Kh1 : ∀ (y0 : Nat) (y1 : Int32) (y2 : Int32) (y3 : Int32) (y4 : Int32) (y5 : Int32) (y6 : Int32), out = .inl (.inr (y0, y1, y2, y3, y4, y5, y6)) → ∀ (ls1 : Array Slot), lv_has ls1 10 [(0, .ref (ad y0)), (2, .int y1), (3, .int y2), (4, .int y3), (5, .int y4), (7, .int y5), (8, .int y6)] → W p l e rmX10_guessOf s m args below meth c s.heap [] 0 0 (MQ below (QcS (some (.int r))) args s 0 0 (fun _ => False)) (F0 m 38 ls1 [])) : W p l e rmX10_guessOf s m args below meth c s.heap [] 0 0 (MQ below (QcS (some (.int r))) args s 0 0 (fun _ => False)) (F0 m 200 ls []) := by
  unfold bX10_guessOf_200 at hF
  obtain ⟨hx, hb, -, hown, -, hts, -⟩ := id C0
  refine lv_goto (tgt := 20) hx hb dX10_guessOf_200 (by decide) ?_
  exact Kh0 _ _ _ _ _ _ (Option.some.inj hF).symm _ (lv_sub hl [0, 1, 2, 3, 4, 5] rfl)
set_option maxHeartbeats 4000000 in
set_option maxRecDepth 100000 in
theorem wX10_guessOf_160 {p : Program} {l : Launch} {e : Env} {s : State} {m : MethodId} {args : Array Value} {below : List Frame} {meth : Method} {c : Code} {D : va_G} {cy : Nat → ClassId} (ad : Nat → Nat) (A : Nat → Prop) {S : MS} {r : Int32} {out : (((Nat × Int32 × Int32 × Int32 × Int32 × Int32) ⊕ (Nat × Int32 × Int32 × Int32 × Int32 × Int32 × Int32)) ⊕ Int32)} {ls : Array Slot} {x0 : Nat} {x2 : Int32} {x3 : Int32} {x4 : Int32} {x5 : Int32} {x7 : Int32} {z0 : Int32} (C0 : CX p s m args meth c RX10 cX10_guessOf 10 D cy) (M : MW D cy ad A S s.heap) (hr : meth.sig.returnType = some .int) (hF : bX10_guessOf_160 S x0 x2 x3 x4 x5 x7 z0 = some out) (hl : lv_has ls 10 [(0, .ref (ad x0)), (2, .int x2), (3, .int x3), (4, .int x4), (5, .int x5), (7, .int x7)]) (Kr : ∀ r9, out = .inr r9 → r9 = r) (Kh0 : ∀ (y0 : Nat) (y1 : Int32) (y2 : Int32) (y3 : Int32) (y4 : Int32) (y5 : Int32), out = .inl (.inl (y0, y1, y2, y3, y4, y5)) → ∀ (ls1 : Array Slot), lv_has ls1 10 [(0, .ref (ad y0)), (2, .int y1), (3, .int y2), (4, .int y3), (5, .int y4), (6, .int y5)] → W p l e rmX10_guessOf s m args below meth c s.heap [] 0 0 (MQ below (QcS (some (.int r))) args s 0 0 (fun _ => False)) (F0 m 20 ls1 [])) (Kh1 : ∀ (y0 : Nat) (y1 : Int32) (y2 : Int32) (y3 : Int32) (y4 : Int32) (y5 : Int32) (y6 : Int32), out = .inl (.inr (y0, y1, y2, y3, y4, y5, y6)) → ∀ (ls1 : Array Slot), lv_has ls1 10 [(0, .ref (ad y0)), (2, .int y1), (3, .int y2), (4, .int y3), (5, .int y4), (7, .int y5), (8, .int y6)] → W p l e rmX10_guessOf s m args below meth c s.heap [] 0 0 (MQ below (QcS (some (.int r))) args s 0 0 (fun _ => False)) (F0 m 38 ls1 [])) : W p l e rmX10_guessOf s m args below meth c s.heap [] 0 0 (MQ below (QcS (some (.int r))) args s 0 0 (fun _ => False)) (F0 m 160 ls [.int z0]) := by
  unfold bX10_guessOf_160 at hF
  obtain ⟨hx, hb, -, hown, -, hts, -⟩ := id C0
  refine lv_istore (lv' := [(6, .int z0), (0, .ref (ad x0)), (2, .int x2), (3, .int x3), (4, .int x4), (5, .int x5), (7, .int x7)]) hx hb dX10_guessOf_160 hl (by decide) rfl (fun ls hl => ?_)
  refine lv_iload hx hb dX10_guessOf_162 (lv_at hl 0 rfl) ?_
  refine lv_if_eq (tgt := 200) hx hb dX10_guessOf_164 (by decide) (fun hc => ?_) (fun hc => ?_)
  · have hF := oi_t hc hF
    exact wX10_guessOf_200 ad A C0 M hr hF (lv_sub hl [1, 2, 3, 4, 5, 0] rfl) Kr Kh0 Kh1
  · have hF := oi_f hc hF
    refine lv_iload_n hx hb dX10_guessOf_167 rfl (lv_at hl 3 rfl) ?_
    refine lv_aload_n hx hb dX10_guessOf_168 rfl (lv_at hl 1 rfl) ?_
    refine lv_iload hx hb dX10_guessOf_169 (lv_at hl 6 rfl) ?_
    refine lv_aload_n hx hb dX10_guessOf_171 rfl (lv_at hl 1 rfl) ?_
    obtain ⟨v172, hv, hF⟩ := ob hF
    refine k_getP C0 M hv fl_X10_43 dX10_guessOf_172 ?_
    refine lv_aload_n hx hb dX10_guessOf_175 rfl (lv_at hl 1 rfl) ?_
    obtain ⟨v176, hv, hF⟩ := ob hF
    refine k_getP C0 M hv fl_X10_46 dX10_guessOf_176 ?_
    refine lv_iload hx hb dX10_guessOf_179 (lv_at hl 6 rfl) ?_
    obtain ⟨v181, hv, hF⟩ := ob hF
    refine k_ld C0 M hv dX10_guessOf_181 ?_
    obtain ⟨v182, hv, hF⟩ := ob hF
    refine k_ld C0 M hv dX10_guessOf_182 ?_
    obtain ⟨_, hrec, hF⟩ := ob hF
    obtain ⟨v183, hcl, hF⟩ := ob hF
    refine go_SI (r_V (rest := [.int x3]) (As := [.int x7, .int v182]) C0 cb_X10_251 M hrec (tX10_levelBy l D cy ad A hcl) (pre_R C0 M) hl dX10_guessOf_183 rfl (Nat.le_of_ble_eq_true rfl) ⟨rfl, rfl⟩ ⟨Nat.le_of_ble_eq_true rfl, Nat.le_of_ble_eq_true rfl⟩ ⟨Nat.le_of_ble_eq_true rfl, Nat.le_of_ble_eq_true rfl⟩ rfl) ?_
    refine lv_iadd hx hb dX10_guessOf_186 ?_
    obtain ⟨v187, hv, hF⟩ := ob hF
    have hv := vtI hv
    refine vtopi hv ?_
    refine lv_istore_n (lv' := [(3, .int v187), (6, .int z0), (0, .ref (ad x0)), (2, .int x2), (4, .int x4), (5, .int x5), (7, .int x7)]) hx hb dX10_guessOf_187 rfl hl (by decide) rfl (fun ls hl => ?_)
    obtain ⟨v188, hv, hF⟩ := ob hF
    refine lv_iinc (v := v188) (lv' := [(4, .int v188), (3, .int v187), (6, .int z0), (0, .ref (ad x0)), (2, .int x2), (5, .int x5), (7, .int x7)]) hx hb dX10_guessOf_188 hl (k := 4) rfl (by rw [← vtI hv]; rfl) (by decide) rfl (fun ls hl => ?_)
    refine lv_iload hx hb dX10_guessOf_191 (lv_at hl 5 rfl) ?_
    refine lv_iconst (v := (1 : Int32)) hx hb dX10_guessOf_193 (by decide) ?_
    refine lv_iload hx hb dX10_guessOf_194 (lv_at hl 6 rfl) ?_
    refine lv_ishl hx hb dX10_guessOf_196 ?_
    refine lv_ior hx hb dX10_guessOf_197 ?_
    obtain ⟨v198, hv, hF⟩ := ob hF
    have hv := vtI hv
    refine vtopi hv ?_
    refine lv_istore (lv' := [(5, .int v198), (4, .int v188), (3, .int v187), (6, .int z0), (0, .ref (ad x0)), (2, .int x2), (7, .int x7)]) hx hb dX10_guessOf_198 hl (by decide) rfl (fun ls hl => ?_)
    exact wX10_guessOf_200 ad A C0 M hr hF (lv_sub hl [4, 5, 2, 1, 0, 3] rfl) Kr Kh0 Kh1
set_option maxHeartbeats 4000000 in
set_option maxRecDepth 100000 in
theorem wX10_guessOf_38 {p : Program} {l : Launch} {e : Env} {s : State} {m : MethodId} {args : Array Value} {below : List Frame} {meth : Method} {c : Code} {D : va_G} {cy : Nat → ClassId} (ad : Nat → Nat) (A : Nat → Prop) {S : MS} {r : Int32} {out : (((Nat × Int32 × Int32 × Int32 × Int32 × Int32) ⊕ (Nat × Int32 × Int32 × Int32 × Int32 × Int32 × Int32)) ⊕ Int32)} {ls : Array Slot} {x0 : Nat} {x2 : Int32} {x3 : Int32} {x4 : Int32} {x5 : Int32} {x7 : Int32} {x8 : Int32} (C0 : CX p s m args meth c RX10 cX10_guessOf 10 D cy) (M : MW D cy ad A S s.heap) (hr : meth.sig.returnType = some .int) (hF : bX10_guessOf_38 S x0 x2 x3 x4 x5 x7 x8 = some out) (hl : lv_has ls 10 [(0, .ref (ad x0)), (2, .int x2), (3, .int x3), (4, .int x4), (5, .int x5), (7, .int x7), (8, .int x8)]) (Kr : ∀ r9, out = .inr r9 → r9 = r) (Kh0 : ∀ (y0 : Nat) (y1 : Int32) (y2 : Int32) (y3 : Int32) (y4 : Int32) (y5 : Int32), out = .inl (.inl (y0, y1, y2, y3, y4, y5)) → ∀ (ls1 : Array Slot), lv_has ls1 10 [(0, .ref (ad y0)), (2, .int y1), (3, .int y2), (4, .int y3), (5, .int y4), (6, .int y5)] → W p l e rmX10_guessOf s m args below meth c s.heap [] 0 0 (MQ below (QcS (some (.int r))) args s 0 0 (fun _ => False)) (F0 m 20 ls1 [])) (Kh1 : ∀ (y0 : Nat) (y1 : Int32) (y2 : Int32) (y3 : Int32) (y4 : Int32) (y5 : Int32) (y6 : Int32), out = .inl (.inr (y0, y1, y2, y3, y4, y5, y6)) → ∀ (ls1 : Array Slot), lv_has ls1 10 [(0, .ref (ad y0)), (2, .int y1), (3, .int y2), (4, .int y3), (5, .int y4), (7, .int y5), (8, .int y6)] → W p l e rmX10_guessOf s m args below meth c s.heap [] 0 0 (MQ below (QcS (some (.int r))) args s 0 0 (fun _ => False)) (F0 m 38 ls1 [])) : W p l e rmX10_guessOf s m args below meth c s.heap [] 0 0 (MQ below (QcS (some (.int r))) args s 0 0 (fun _ => False)) (F0 m 38 ls []) := by
  unfold bX10_guessOf_38 at hF
  obtain ⟨hx, hb, -, hown, -, hts, -⟩ := id C0
  refine lv_iload hx hb dX10_guessOf_38 (lv_at hl 6 rfl) ?_
  refine lv_aload_n hx hb dX10_guessOf_40 rfl (lv_at hl 0 rfl) ?_
  obtain ⟨v41, hv, hF⟩ := ob hF
  refine k_getI C0 M hv fl_X10_153 dX10_guessOf_41 ?_
  refine lv_icmp_ge (tgt := 150) hx hb dX10_guessOf_44 (by decide) (fun hc => ?_) (fun hc => ?_)
  · have hF := oi_t hc hF
    refine lv_iload hx hb dX10_guessOf_150 (lv_at hl 5 rfl) ?_
    refine lv_if_lt (tgt := 159) hx hb dX10_guessOf_152 (by decide) (fun hc => ?_) (fun hc => ?_)
    · have hF := oi_t hc hF
      refine lv_iconst (v := (0 : Int32)) hx hb dX10_guessOf_159 (by decide) ?_
      exact wX10_guessOf_160 ad A C0 M hr hF (lv_sub hl [0, 1, 2, 3, 4, 5] rfl) Kr Kh0 Kh1
    · have hF := oi_f hc hF
      refine lv_iconst (v := (1 : Int32)) hx hb dX10_guessOf_155 (by decide) ?_
      refine lv_goto (tgt := 160) hx hb dX10_guessOf_156 (by decide) ?_
      exact wX10_guessOf_160 ad A C0 M hr hF (lv_sub hl [0, 1, 2, 3, 4, 5] rfl) Kr Kh0 Kh1
  · have hF := oi_f hc hF
    refine lv_aload_n hx hb dX10_guessOf_47 rfl (lv_at hl 0 rfl) ?_
    obtain ⟨v48, hv, hF⟩ := ob hF
    refine k_getP C0 M hv fl_X10_46 dX10_guessOf_48 ?_
    refine lv_iload hx hb dX10_guessOf_51 (lv_at hl 6 rfl) ?_
    obtain ⟨v53, hv, hF⟩ := ob hF
    refine k_ld C0 M hv dX10_guessOf_53 ?_
    refine lv_if_lt (tgt := 87) hx hb dX10_guessOf_54 (by decide) (fun hc => ?_) (fun hc => ?_)
    · have hF := oi_t hc hF
      exact wX10_guessOf_87 ad A C0 M hr hF (lv_sub hl [0, 1, 2, 3, 4, 5, 6] rfl) Kr Kh0 Kh1
    · have hF := oi_f hc hF
      refine lv_iload hx hb dX10_guessOf_57 (lv_at hl 4 rfl) ?_
      refine lv_iload hx hb dX10_guessOf_59 (lv_at hl 6 rfl) ?_
      obtain ⟨v61, hcl, hF⟩ := ob hF
      refine go_SI (r_S (rest := []) (As := [.int x5, .int x8]) C0 cb_X10_245 (tX10_hasBit l D cy ad hcl) (pre_S C0) hl dX10_guessOf_61 rfl (Nat.le_of_ble_eq_true rfl) ⟨rfl, rfl⟩ ⟨Nat.le_of_ble_eq_true rfl, Nat.le_of_ble_eq_true rfl⟩ ⟨Nat.le_of_ble_eq_true rfl, Nat.le_of_ble_eq_true rfl⟩ rfl) ?_
      refine lv_if_ne (tgt := 87) hx hb dX10_guessOf_64 (by decide) (fun hc => ?_) (fun hc => ?_)
      · have hF := oi_f hc hF
        exact wX10_guessOf_87 ad A C0 M hr hF (lv_sub hl [0, 1, 2, 3, 4, 5, 6] rfl) Kr Kh0 Kh1
      · have hF := oi_t hc hF
        refine lv_aload_n hx hb dX10_guessOf_67 rfl (lv_at hl 0 rfl) ?_
        obtain ⟨v68, hv, hF⟩ := ob hF
        refine k_getP C0 M hv fl_X10_40 dX10_guessOf_68 ?_
        refine lv_aload_n hx hb dX10_guessOf_71 rfl (lv_at hl 0 rfl) ?_
        obtain ⟨v72, hv, hF⟩ := ob hF
        refine k_getP C0 M hv fl_X10_46 dX10_guessOf_72 ?_
        refine lv_iload hx hb dX10_guessOf_75 (lv_at hl 6 rfl) ?_
        obtain ⟨v77, hv, hF⟩ := ob hF
        refine k_ld C0 M hv dX10_guessOf_77 ?_
        obtain ⟨v78, hv, hF⟩ := ob hF
        refine k_ld C0 M hv dX10_guessOf_78 ?_
        refine lv_iconst (v := (1 : Int32)) hx hb dX10_guessOf_79 (by decide) ?_
        refine lv_icmp_ne (tgt := 87) hx hb dX10_guessOf_80 (by decide) (fun hc => ?_) (fun hc => ?_)
        · have hF := oi_f hc hF
          exact wX10_guessOf_87 ad A C0 M hr hF (lv_sub hl [0, 1, 2, 3, 4, 5, 6] rfl) Kr Kh0 Kh1
        · have hF := oi_t hc hF
          refine lv_iconst (v := (1 : Int32)) hx hb dX10_guessOf_83 (by decide) ?_
          refine lv_goto (tgt := 88) hx hb dX10_guessOf_84 (by decide) ?_
          exact wX10_guessOf_88 ad A C0 M hr hF (lv_sub hl [0, 1, 2, 3, 4, 5, 6] rfl) Kr Kh0 Kh1
set_option maxHeartbeats 4000000 in
set_option maxRecDepth 100000 in
theorem tX10_guessOf (l : Launch) (D : va_G) (cy : Nat → ClassId) (ad : Nat → Nat) (A : Nat → Prop) {S : MS} {a0 : Nat} {a1 : Int32} {r : Int32} (h : fX10_guessOf S a0 a1 = some r) : Met l yX10_guessOf [Cond.code yX10_guessOf cX10_guessOf 10 (some .int)] rmX10_guessOf (PcR D cy ad A S [.ref (ad a0), .int a1]) (QcS (some (.int r))) 0 0 (fun _ => False) := by
  refine met_R (by decide +kernel) cw_X10_guessOf (Nat.le_of_ble_eq_true rfl) ?_
  intro p e s m args below meth c ls C0 M hr hl
  have hl : lv_has ls 10 [(0, .ref (ad a0)), (1, .int a1)] := hl
  have key := lim_walk (step := sX10_guessOf S) (fun (q : ((Nat × Int32 × Int32 × Int32 × Int32 × Int32) ⊕ (Nat × Int32 × Int32 × Int32 × Int32 × Int32 × Int32))) (r9 : Int32) => ∀ (r : Int32), r9 = r → ((∀ (y0 : Nat) (y1 : Int32) (y2 : Int32) (y3 : Int32) (y4 : Int32) (y5 : Int32), q = (.inl (y0, y1, y2, y3, y4, y5)) → ∀ (ls1 : Array Slot), lv_has ls1 10 [(0, .ref (ad y0)), (2, .int y1), (3, .int y2), (4, .int y3), (5, .int y4), (6, .int y5)] → W p l e rmX10_guessOf s m args below meth c s.heap [] 0 0 (MQ below (QcS (some (.int r))) args s 0 0 (fun _ => False)) (F0 m 20 ls1 [])) ∧ (∀ (y0 : Nat) (y1 : Int32) (y2 : Int32) (y3 : Int32) (y4 : Int32) (y5 : Int32) (y6 : Int32), q = (.inr (y0, y1, y2, y3, y4, y5, y6)) → ∀ (ls1 : Array Slot), lv_has ls1 10 [(0, .ref (ad y0)), (2, .int y1), (3, .int y2), (4, .int y3), (5, .int y4), (7, .int y5), (8, .int y6)] → W p l e rmX10_guessOf s m args below meth c s.heap [] 0 0 (MQ below (QcS (some (.int r))) args s 0 0 (fun _ => False)) (F0 m 38 ls1 [])))) ?_
  · unfold fX10_guessOf at h
    cases hs0 : bX10_guessOf_0 S a0 a1 with
    | none => rw [hs0] at h; cases h
    | some out =>
      rw [hs0] at h
      refine wX10_guessOf_0 ad A C0 M hr hs0 hl (fun r9 hr9 => ?_) ?_ ?_
      · subst hr9; exact Option.some.inj h
      · intro y0 y1 y2 y3 y4 y5 hq; subst hq; exact (key _ _ h _ rfl).1 _ _ _ _ _ _ rfl
      · intro y0 y1 y2 y3 y4 y5 y6 hq; subst hq; exact (key _ _ h _ rfl).2 _ _ _ _ _ _ _ rfl
  · intro q r9 out hst hre hin9
    intro r er; subst er
    refine ⟨?_, ?_⟩
    · intro y0 y1 y2 y3 y4 y5 hq ls1 hl
      subst hq
      exact wX10_guessOf_20 ad A C0 M hr hst hl hre (fun k0 k1 k2 k3 k4 k5 hk => (hin9 _ hk _ rfl).1 _ _ _ _ _ _ rfl) (fun k0 k1 k2 k3 k4 k5 k6 hk => (hin9 _ hk _ rfl).2 _ _ _ _ _ _ _ rfl)
    · intro y0 y1 y2 y3 y4 y5 y6 hq ls1 hl
      subst hq
      exact wX10_guessOf_38 ad A C0 M hr hst hl hre (fun k0 k1 k2 k3 k4 k5 hk => (hin9 _ hk _ rfl).1 _ _ _ _ _ _ rfl) (fun k0 k1 k2 k3 k4 k5 k6 hk => (hin9 _ hk _ rfl).2 _ _ _ _ _ _ _ rfl)
set_option maxHeartbeats 4000000 in
set_option maxRecDepth 100000 in
theorem wX10_fits_34 {p : Program} {l : Launch} {e : Env} {s : State} {m : MethodId} {args : Array Value} {below : List Frame} {meth : Method} {c : Code} {D : va_G} {cy : Nat → ClassId} (ad : Nat → Nat) (A : Nat → Prop) {S : MS} {r : Int32} {ls : Array Slot} {z0 : Int32} (C0 : CX p s m args meth c RX10 cX10_fits 6 D cy) (M : MW D cy ad A S s.heap) (hr : meth.sig.returnType = some .boolean) (hF : bX10_fits_34 S z0 = some r) (hl : lv_has ls 6 []) : W p l e rmX10_fits s m args below meth c s.heap [] 0 0 (MQ below (QcS (some (.int r))) args s 0 0 (fun _ => False)) (F0 m 34 ls [.int z0]) := by
  unfold bX10_fits_34 at hF
  obtain ⟨hx, hb, -, hown, -, hts, -⟩ := id C0
  obtain ⟨z34, hz, hF⟩ := ob hF
  have hz2 := (o_if hz).2
  refine vtopi hz2 ?_
  rw [hz2] at hz
  obtain rfl := (Option.some.inj hF)
  exact rt_SZ C0 hr hz dX10_fits_34
set_option maxHeartbeats 4000000 in
set_option maxRecDepth 100000 in
theorem wX10_fits_29 {p : Program} {l : Launch} {e : Env} {s : State} {m : MethodId} {args : Array Value} {below : List Frame} {meth : Method} {c : Code} {D : va_G} {cy : Nat → ClassId} (ad : Nat → Nat) (A : Nat → Prop) {S : MS} {r : Int32} {ls : Array Slot} (C0 : CX p s m args meth c RX10 cX10_fits 6 D cy) (M : MW D cy ad A S s.heap) (hr : meth.sig.returnType = some .boolean) (hF : bX10_fits_29 S = some r) (hl : lv_has ls 6 []) : W p l e rmX10_fits s m args below meth c s.heap [] 0 0 (MQ below (QcS (some (.int r))) args s 0 0 (fun _ => False)) (F0 m 29 ls []) := by
  unfold bX10_fits_29 at hF
  obtain ⟨hx, hb, -, hown, -, hts, -⟩ := id C0
  refine lv_iconst (v := (1 : Int32)) hx hb dX10_fits_29 (by decide) ?_
  refine lv_goto (tgt := 34) hx hb dX10_fits_30 (by decide) ?_
  exact wX10_fits_34 ad A C0 M hr hF (lv_sub hl [] rfl)
set_option maxHeartbeats 4000000 in
set_option maxRecDepth 100000 in
theorem wX10_fits_0 {p : Program} {l : Launch} {e : Env} {s : State} {m : MethodId} {args : Array Value} {below : List Frame} {meth : Method} {c : Code} {D : va_G} {cy : Nat → ClassId} (ad : Nat → Nat) (A : Nat → Prop) {S : MS} {r : Int32} {ls : Array Slot} {x0 : Nat} {x1 : Int32} {x2 : Int32} {x3 : Int32} {x4 : Int32} (C0 : CX p s m args meth c RX10 cX10_fits 6 D cy) (M : MW D cy ad A S s.heap) (hr : meth.sig.returnType = some .boolean) (hF : bX10_fits_0 S x0 x1 x2 x3 x4 = some r) (hl : lv_has ls 6 [(0, .ref (ad x0)), (1, .int x1), (2, .int x2), (3, .int x3), (4, .int x4)]) : W p l e rmX10_fits s m args below meth c s.heap [] 0 0 (MQ below (QcS (some (.int r))) args s 0 0 (fun _ => False)) (F0 m 0 ls []) := by
  unfold bX10_fits_0 at hF
  obtain ⟨hx, hb, -, hown, -, hts, -⟩ := id C0
  refine lv_aload_n hx hb dX10_fits_0 rfl (lv_at hl 0 rfl) ?_
  obtain ⟨v1, hv, hF⟩ := ob hF
  refine k_getP C0 M hv fl_X10_37 dX10_fits_1 ?_
  refine lv_bipush (v := (15 : Int32)) hx hb dX10_fits_4 (by decide) ?_
  refine lv_iload_n hx hb dX10_fits_6 rfl (lv_at hl 1 rfl) ?_
  refine lv_imul hx hb dX10_fits_7 ?_
  refine lv_iconst (v := (5 : Int32)) hx hb dX10_fits_8 (by decide) ?_
  refine lv_iload_n hx hb dX10_fits_9 rfl (lv_at hl 2 rfl) ?_
  refine lv_imul hx hb dX10_fits_10 ?_
  refine lv_iadd hx hb dX10_fits_11 ?_
  refine lv_iload_n hx hb dX10_fits_12 rfl (lv_at hl 3 rfl) ?_
  refine lv_iadd hx hb dX10_fits_13 ?_
  obtain ⟨v14, hv, hF⟩ := ob hF
  refine k_ld C0 M hv dX10_fits_14 ?_
  refine lv_istore (lv' := [(5, .int v14), (0, .ref (ad x0)), (1, .int x1), (2, .int x2), (3, .int x3), (4, .int x4)]) hx hb dX10_fits_15 hl (by decide) rfl (fun ls hl => ?_)
  refine lv_iload hx hb dX10_fits_17 (lv_at hl 0 rfl) ?_
  refine lv_if_lt (tgt := 29) hx hb dX10_fits_19 (by decide) (fun hc => ?_) (fun hc => ?_)
  · have hF := oi_t hc hF
    exact wX10_fits_29 ad A C0 M hr hF (lv_sub hl [] rfl)
  · have hF := oi_f hc hF
    refine lv_iload hx hb dX10_fits_22 (lv_at hl 0 rfl) ?_
    refine lv_iload hx hb dX10_fits_24 (lv_at hl 5 rfl) ?_
    refine lv_icmp_ne (tgt := 33) hx hb dX10_fits_26 (by decide) (fun hc => ?_) (fun hc => ?_)
    · have hF := oi_f hc hF
      refine lv_iconst (v := (0 : Int32)) hx hb dX10_fits_33 (by decide) ?_
      exact wX10_fits_34 ad A C0 M hr hF (lv_sub hl [] rfl)
    · have hF := oi_t hc hF
      exact wX10_fits_29 ad A C0 M hr hF (lv_sub hl [] rfl)
set_option maxHeartbeats 4000000 in
set_option maxRecDepth 100000 in
theorem tX10_fits (l : Launch) (D : va_G) (cy : Nat → ClassId) (ad : Nat → Nat) (A : Nat → Prop) {S : MS} {a0 : Nat} {a1 : Int32} {a2 : Int32} {a3 : Int32} {a4 : Int32} {r : Int32} (h : fX10_fits S a0 a1 a2 a3 a4 = some r) : Met l yX10_fits [Cond.code yX10_fits cX10_fits 6 (some .boolean)] rmX10_fits (PcR D cy ad A S [.ref (ad a0), .int a1, .int a2, .int a3, .int a4]) (QcS (some (.int r))) 0 0 (fun _ => False) := by
  refine met_R (by decide +kernel) cw_X10_fits (Nat.le_of_ble_eq_true rfl) ?_
  intro p e s m args below meth c ls C0 M hr hl
  have hl : lv_has ls 6 [(0, .ref (ad a0)), (1, .int a1), (2, .int a2), (3, .int a3), (4, .int a4)] := hl
  exact wX10_fits_0 ad A C0 M hr h hl
set_option maxHeartbeats 4000000 in
set_option maxRecDepth 100000 in
theorem wX10_readingOf_147 {p : Program} {l : Launch} {e : Env} {s : State} {m : MethodId} {args : Array Value} {below : List Frame} {meth : Method} {c : Code} {D : va_G} {cy : Nat → ClassId} (ad : Nat → Nat) (A : Nat → Prop) {S : MS} {r : Int32} {ls : Array Slot} {z0 : Int32} (C0 : CX p s m args meth c RX10 cX10_readingOf 10 D cy) (M : MW D cy ad A S s.heap) (hr : meth.sig.returnType = some .int) (hF : bX10_readingOf_147 S z0 = some r) (hl : lv_has ls 10 []) : W p l e rmX10_readingOf s m args below meth c s.heap [] 0 0 (MQ below (QcS (some (.int r))) args s 0 0 (fun _ => False)) (F0 m 147 ls [.int z0]) := by
  unfold bX10_readingOf_147 at hF
  obtain ⟨hx, hb, -, hown, -, hts, -⟩ := id C0
  obtain rfl := (Option.some.inj hF)
  exact rt_SI C0 hr dX10_readingOf_147
set_option maxHeartbeats 4000000 in
set_option maxRecDepth 100000 in
theorem wX10_readingOf_136 {p : Program} {l : Launch} {e : Env} {s : State} {m : MethodId} {args : Array Value} {below : List Frame} {meth : Method} {c : Code} {D : va_G} {cy : Nat → ClassId} (ad : Nat → Nat) (A : Nat → Prop) {S : MS} {r : Int32} {ls : Array Slot} {x3 : Int32} {x8 : Int32} (C0 : CX p s m args meth c RX10 cX10_readingOf 10 D cy) (M : MW D cy ad A S s.heap) (hr : meth.sig.returnType = some .int) (hF : bX10_readingOf_136 S x3 x8 = some r) (hl : lv_has ls 10 [(3, .int x3), (8, .int x8)]) : W p l e rmX10_readingOf s m args below meth c s.heap [] 0 0 (MQ below (QcS (some (.int r))) args s 0 0 (fun _ => False)) (F0 m 136 ls []) := by
  unfold bX10_readingOf_136 at hF
  obtain ⟨hx, hb, -, hown, -, hts, -⟩ := id C0
  refine lv_bipush (v := (10 : Int32)) hx hb dX10_readingOf_136 (by decide) ?_
  refine lv_iload_n hx hb dX10_readingOf_138 rfl (lv_at hl 0 rfl) ?_
  refine lv_imul hx hb dX10_readingOf_139 ?_
  refine lv_iload hx hb dX10_readingOf_140 (lv_at hl 1 rfl) ?_
  refine lv_iadd hx hb dX10_readingOf_142 ?_
  refine lv_goto (tgt := 147) hx hb dX10_readingOf_143 (by decide) ?_
  exact wX10_readingOf_147 ad A C0 M hr hF (lv_sub hl [] rfl)
set_option maxHeartbeats 4000000 in
set_option maxRecDepth 100000 in
theorem wX10_readingOf_146 {p : Program} {l : Launch} {e : Env} {s : State} {m : MethodId} {args : Array Value} {below : List Frame} {meth : Method} {c : Code} {D : va_G} {cy : Nat → ClassId} (ad : Nat → Nat) (A : Nat → Prop) {S : MS} {r : Int32} {ls : Array Slot} (C0 : CX p s m args meth c RX10 cX10_readingOf 10 D cy) (M : MW D cy ad A S s.heap) (hr : meth.sig.returnType = some .int) (hF : bX10_readingOf_146 S = some r) (hl : lv_has ls 10 []) : W p l e rmX10_readingOf s m args below meth c s.heap [] 0 0 (MQ below (QcS (some (.int r))) args s 0 0 (fun _ => False)) (F0 m 146 ls []) := by
  unfold bX10_readingOf_146 at hF
  obtain ⟨hx, hb, -, hown, -, hts, -⟩ := id C0
  refine lv_iconst (v := (-1 : Int32)) hx hb dX10_readingOf_146 (by decide) ?_
  exact wX10_readingOf_147 ad A C0 M hr hF (lv_sub hl [] rfl)
set_option maxHeartbeats 4000000 in
set_option maxRecDepth 100000 in
theorem wX10_readingOf_116 {p : Program} {l : Launch} {e : Env} {s : State} {m : MethodId} {args : Array Value} {below : List Frame} {meth : Method} {c : Code} {D : va_G} {cy : Nat → ClassId} (ad : Nat → Nat) (A : Nat → Prop) {S : MS} {r : Int32} {ls : Array Slot} {x2 : Int32} {x3 : Int32} {x8 : Int32} {z0 : Int32} (C0 : CX p s m args meth c RX10 cX10_readingOf 10 D cy) (M : MW D cy ad A S s.heap) (hr : meth.sig.returnType = some .int) (hF : bX10_readingOf_116 S x2 x3 x8 z0 = some r) (hl : lv_has ls 10 [(2, .int x2), (3, .int x3), (8, .int x8)]) : W p l e rmX10_readingOf s m args below meth c s.heap [] 0 0 (MQ below (QcS (some (.int r))) args s 0 0 (fun _ => False)) (F0 m 116 ls [.int z0]) := by
  unfold bX10_readingOf_116 at hF
  obtain ⟨hx, hb, -, hown, -, hts, -⟩ := id C0
  refine lv_istore (lv' := [(9, .int z0), (2, .int x2), (3, .int x3), (8, .int x8)]) hx hb dX10_readingOf_116 hl (by decide) rfl (fun ls hl => ?_)
  refine lv_iload hx hb dX10_readingOf_118 (lv_at hl 0 rfl) ?_
  refine lv_if_eq (tgt := 146) hx hb dX10_readingOf_120 (by decide) (fun hc => ?_) (fun hc => ?_)
  · have hF := oi_t hc hF
    exact wX10_readingOf_146 ad A C0 M hr hF (lv_sub hl [] rfl)
  · have hF := oi_f hc hF
    refine lv_iload_n hx hb dX10_readingOf_123 rfl (lv_at hl 1 rfl) ?_
    refine lv_if_ne (tgt := 136) hx hb dX10_readingOf_124 (by decide) (fun hc => ?_) (fun hc => ?_)
    · have hF := oi_f hc hF
      exact wX10_readingOf_136 ad A C0 M hr hF (lv_sub hl [2, 3] rfl)
    · have hF := oi_t hc hF
      refine lv_iload_n hx hb dX10_readingOf_127 rfl (lv_at hl 2 rfl) ?_
      refine lv_bipush (v := (100 : Int32)) hx hb dX10_readingOf_128 (by decide) ?_
      refine lv_idiv hx hb dX10_readingOf_130 (by decide) ?_
      refine lv_bipush (v := (36 : Int32)) hx hb dX10_readingOf_131 (by decide) ?_
      refine lv_icmp_gt (tgt := 146) hx hb dX10_readingOf_133 (by decide) (fun hc => ?_) (fun hc => ?_)
      · have hF := oi_t hc hF
        exact wX10_readingOf_146 ad A C0 M hr hF (lv_sub hl [] rfl)
      · have hF := oi_f hc hF
        exact wX10_readingOf_136 ad A C0 M hr hF (lv_sub hl [2, 3] rfl)
set_option maxHeartbeats 4000000 in
set_option maxRecDepth 100000 in
theorem wX10_readingOf_115 {p : Program} {l : Launch} {e : Env} {s : State} {m : MethodId} {args : Array Value} {below : List Frame} {meth : Method} {c : Code} {D : va_G} {cy : Nat → ClassId} (ad : Nat → Nat) (A : Nat → Prop) {S : MS} {r : Int32} {ls : Array Slot} {x2 : Int32} {x3 : Int32} {x8 : Int32} (C0 : CX p s m args meth c RX10 cX10_readingOf 10 D cy) (M : MW D cy ad A S s.heap) (hr : meth.sig.returnType = some .int) (hF : bX10_readingOf_115 S x2 x3 x8 = some r) (hl : lv_has ls 10 [(2, .int x2), (3, .int x3), (8, .int x8)]) : W p l e rmX10_readingOf s m args below meth c s.heap [] 0 0 (MQ below (QcS (some (.int r))) args s 0 0 (fun _ => False)) (F0 m 115 ls []) := by
  unfold bX10_readingOf_115 at hF
  obtain ⟨hx, hb, -, hown, -, hts, -⟩ := id C0
  refine lv_iconst (v := (0 : Int32)) hx hb dX10_readingOf_115 (by decide) ?_
  exact wX10_readingOf_116 ad A C0 M hr hF (lv_sub hl [0, 1, 2] rfl)
set_option maxHeartbeats 4000000 in
set_option maxRecDepth 100000 in
theorem wX10_readingOf_0 {p : Program} {l : Launch} {e : Env} {s : State} {m : MethodId} {args : Array Value} {below : List Frame} {meth : Method} {c : Code} {D : va_G} {cy : Nat → ClassId} (ad : Nat → Nat) (A : Nat → Prop) {S : MS} {r : Int32} {ls : Array Slot} {x0 : Nat} {x1 : Int32} {x2 : Int32} {x3 : Int32} (C0 : CX p s m args meth c RX10 cX10_readingOf 10 D cy) (M : MW D cy ad A S s.heap) (hr : meth.sig.returnType = some .int) (hF : bX10_readingOf_0 S x0 x1 x2 x3 = some r) (hl : lv_has ls 10 [(0, .ref (ad x0)), (1, .int x1), (2, .int x2), (3, .int x3)]) : W p l e rmX10_readingOf s m args below meth c s.heap [] 0 0 (MQ below (QcS (some (.int r))) args s 0 0 (fun _ => False)) (F0 m 0 ls []) := by
  unfold bX10_readingOf_0 at hF
  obtain ⟨hx, hb, -, hown, -, hts, -⟩ := id C0
  refine lv_iload_n hx hb dX10_readingOf_0 rfl (lv_at hl 3 rfl) ?_
  refine lv_sipush (v := (1000 : Int32)) hx hb dX10_readingOf_1 (by decide) ?_
  refine lv_idiv hx hb dX10_readingOf_4 (by decide) ?_
  obtain ⟨v5, hv, hF⟩ := ob hF
  have hv := vtI hv
  refine vtopi hv ?_
  refine lv_istore (lv' := [(4, .int v5), (0, .ref (ad x0)), (1, .int x1), (2, .int x2), (3, .int x3)]) hx hb dX10_readingOf_5 hl (by decide) rfl (fun ls hl => ?_)
  refine lv_iload_n hx hb dX10_readingOf_7 rfl (lv_at hl 4 rfl) ?_
  refine lv_bipush (v := (100 : Int32)) hx hb dX10_readingOf_8 (by decide) ?_
  refine lv_idiv hx hb dX10_readingOf_10 (by decide) ?_
  refine lv_bipush (v := (10 : Int32)) hx hb dX10_readingOf_11 (by decide) ?_
  refine lv_irem hx hb dX10_readingOf_13 (by decide) ?_
  obtain ⟨v14, hv, hF⟩ := ob hF
  have hv := vtI hv
  refine vtopi hv ?_
  refine lv_istore (lv' := [(5, .int v14), (4, .int v5), (0, .ref (ad x0)), (1, .int x1), (2, .int x2), (3, .int x3)]) hx hb dX10_readingOf_14 hl (by decide) rfl (fun ls hl => ?_)
  refine lv_iload_n hx hb dX10_readingOf_16 rfl (lv_at hl 5 rfl) ?_
  refine lv_bipush (v := (10 : Int32)) hx hb dX10_readingOf_17 (by decide) ?_
  refine lv_idiv hx hb dX10_readingOf_19 (by decide) ?_
  refine lv_bipush (v := (10 : Int32)) hx hb dX10_readingOf_20 (by decide) ?_
  refine lv_irem hx hb dX10_readingOf_22 (by decide) ?_
  obtain ⟨v23, hv, hF⟩ := ob hF
  have hv := vtI hv
  refine vtopi hv ?_
  refine lv_istore (lv' := [(6, .int v23), (5, .int v14), (4, .int v5), (0, .ref (ad x0)), (1, .int x1), (2, .int x2), (3, .int x3)]) hx hb dX10_readingOf_23 hl (by decide) rfl (fun ls hl => ?_)
  refine lv_iload_n hx hb dX10_readingOf_25 rfl (lv_at hl 6 rfl) ?_
  refine lv_bipush (v := (10 : Int32)) hx hb dX10_readingOf_26 (by decide) ?_
  refine lv_irem hx hb dX10_readingOf_28 (by decide) ?_
  obtain ⟨v29, hv, hF⟩ := ob hF
  have hv := vtI hv
  refine vtopi hv ?_
  refine lv_istore (lv' := [(7, .int v29), (6, .int v23), (5, .int v14), (4, .int v5), (0, .ref (ad x0)), (1, .int x1), (2, .int x2), (3, .int x3)]) hx hb dX10_readingOf_29 hl (by decide) rfl (fun ls hl => ?_)
  refine lv_iload hx hb dX10_readingOf_31 (lv_at hl 3 rfl) ?_
  refine lv_iconst (v := (3 : Int32)) hx hb dX10_readingOf_33 (by decide) ?_
  refine lv_iload hx hb dX10_readingOf_34 (lv_at hl 2 rfl) ?_
  refine lv_imul hx hb dX10_readingOf_36 ?_
  refine lv_iadd hx hb dX10_readingOf_37 ?_
  refine lv_iload hx hb dX10_readingOf_38 (lv_at hl 1 rfl) ?_
  refine lv_iadd hx hb dX10_readingOf_40 ?_
  refine lv_iconst (v := (3 : Int32)) hx hb dX10_readingOf_41 (by decide) ?_
  refine lv_iload hx hb dX10_readingOf_42 (lv_at hl 0 rfl) ?_
  refine lv_imul hx hb dX10_readingOf_44 ?_
  refine lv_iadd hx hb dX10_readingOf_45 ?_
  refine lv_bipush (v := (10 : Int32)) hx hb dX10_readingOf_46 (by decide) ?_
  refine lv_irem hx hb dX10_readingOf_48 (by decide) ?_
  obtain ⟨v49, hv, hF⟩ := ob hF
  have hv := vtI hv
  refine vtopi hv ?_
  refine lv_istore (lv' := [(8, .int v49), (7, .int v29), (6, .int v23), (5, .int v14), (4, .int v5), (0, .ref (ad x0)), (1, .int x1), (2, .int x2), (3, .int x3)]) hx hb dX10_readingOf_49 hl (by decide) rfl (fun ls hl => ?_)
  refine lv_aload_n hx hb dX10_readingOf_51 rfl (lv_at hl 5 rfl) ?_
  refine lv_iload_n hx hb dX10_readingOf_52 rfl (lv_at hl 6 rfl) ?_
  refine lv_iload_n hx hb dX10_readingOf_53 rfl (lv_at hl 7 rfl) ?_
  refine lv_iconst (v := (0 : Int32)) hx hb dX10_readingOf_54 (by decide) ?_
  refine lv_iload hx hb dX10_readingOf_55 (lv_at hl 4 rfl) ?_
  obtain ⟨_, hrec, hF⟩ := ob hF
  obtain ⟨v57, hcl, hF⟩ := ob hF
  refine go_SI (r_V (rest := []) (As := [.int x1, .int x2, .int (0 : Int32), .int v5]) C0 cb_X10_204 M hrec (tX10_fits l D cy ad A hcl) (pre_R C0 M) hl dX10_readingOf_57 rfl (Nat.le_of_ble_eq_true rfl) ⟨rfl, rfl⟩ ⟨Nat.le_of_ble_eq_true rfl, Nat.le_of_ble_eq_true rfl⟩ ⟨Nat.le_of_ble_eq_true rfl, Nat.le_of_ble_eq_true rfl⟩ rfl) ?_
  refine lv_if_eq (tgt := 115) hx hb dX10_readingOf_60 (by decide) (fun hc => ?_) (fun hc => ?_)
  · have hF := oi_t hc hF
    exact wX10_readingOf_115 ad A C0 M hr hF (lv_sub hl [7, 8, 0] rfl)
  · have hF := oi_f hc hF
    refine lv_aload_n hx hb dX10_readingOf_63 rfl (lv_at hl 5 rfl) ?_
    refine lv_iload_n hx hb dX10_readingOf_64 rfl (lv_at hl 6 rfl) ?_
    refine lv_iload_n hx hb dX10_readingOf_65 rfl (lv_at hl 7 rfl) ?_
    refine lv_iconst (v := (1 : Int32)) hx hb dX10_readingOf_66 (by decide) ?_
    refine lv_iload hx hb dX10_readingOf_67 (lv_at hl 3 rfl) ?_
    obtain ⟨_, hrec, hF⟩ := ob hF
    obtain ⟨v69, hcl, hF⟩ := ob hF
    refine go_SI (r_V (rest := []) (As := [.int x1, .int x2, .int (1 : Int32), .int v14]) C0 cb_X10_204 M hrec (tX10_fits l D cy ad A hcl) (pre_R C0 M) hl dX10_readingOf_69 rfl (Nat.le_of_ble_eq_true rfl) ⟨rfl, rfl⟩ ⟨Nat.le_of_ble_eq_true rfl, Nat.le_of_ble_eq_true rfl⟩ ⟨Nat.le_of_ble_eq_true rfl, Nat.le_of_ble_eq_true rfl⟩ rfl) ?_
    refine lv_if_eq (tgt := 115) hx hb dX10_readingOf_72 (by decide) (fun hc => ?_) (fun hc => ?_)
    · have hF := oi_t hc hF
      exact wX10_readingOf_115 ad A C0 M hr hF (lv_sub hl [7, 8, 0] rfl)
    · have hF := oi_f hc hF
      refine lv_aload_n hx hb dX10_readingOf_75 rfl (lv_at hl 5 rfl) ?_
      refine lv_iload_n hx hb dX10_readingOf_76 rfl (lv_at hl 6 rfl) ?_
      refine lv_iload_n hx hb dX10_readingOf_77 rfl (lv_at hl 7 rfl) ?_
      refine lv_iconst (v := (2 : Int32)) hx hb dX10_readingOf_78 (by decide) ?_
      refine lv_iload hx hb dX10_readingOf_79 (lv_at hl 2 rfl) ?_
      obtain ⟨_, hrec, hF⟩ := ob hF
      obtain ⟨v81, hcl, hF⟩ := ob hF
      refine go_SI (r_V (rest := []) (As := [.int x1, .int x2, .int (2 : Int32), .int v23]) C0 cb_X10_204 M hrec (tX10_fits l D cy ad A hcl) (pre_R C0 M) hl dX10_readingOf_81 rfl (Nat.le_of_ble_eq_true rfl) ⟨rfl, rfl⟩ ⟨Nat.le_of_ble_eq_true rfl, Nat.le_of_ble_eq_true rfl⟩ ⟨Nat.le_of_ble_eq_true rfl, Nat.le_of_ble_eq_true rfl⟩ rfl) ?_
      refine lv_if_eq (tgt := 115) hx hb dX10_readingOf_84 (by decide) (fun hc => ?_) (fun hc => ?_)
      · have hF := oi_t hc hF
        exact wX10_readingOf_115 ad A C0 M hr hF (lv_sub hl [7, 8, 0] rfl)
      · have hF := oi_f hc hF
        refine lv_aload_n hx hb dX10_readingOf_87 rfl (lv_at hl 5 rfl) ?_
        refine lv_iload_n hx hb dX10_readingOf_88 rfl (lv_at hl 6 rfl) ?_
        refine lv_iload_n hx hb dX10_readingOf_89 rfl (lv_at hl 7 rfl) ?_
        refine lv_iconst (v := (3 : Int32)) hx hb dX10_readingOf_90 (by decide) ?_
        refine lv_iload hx hb dX10_readingOf_91 (lv_at hl 1 rfl) ?_
        obtain ⟨_, hrec, hF⟩ := ob hF
        obtain ⟨v93, hcl, hF⟩ := ob hF
        refine go_SI (r_V (rest := []) (As := [.int x1, .int x2, .int (3 : Int32), .int v29]) C0 cb_X10_204 M hrec (tX10_fits l D cy ad A hcl) (pre_R C0 M) hl dX10_readingOf_93 rfl (Nat.le_of_ble_eq_true rfl) ⟨rfl, rfl⟩ ⟨Nat.le_of_ble_eq_true rfl, Nat.le_of_ble_eq_true rfl⟩ ⟨Nat.le_of_ble_eq_true rfl, Nat.le_of_ble_eq_true rfl⟩ rfl) ?_
        refine lv_if_eq (tgt := 115) hx hb dX10_readingOf_96 (by decide) (fun hc => ?_) (fun hc => ?_)
        · have hF := oi_t hc hF
          exact wX10_readingOf_115 ad A C0 M hr hF (lv_sub hl [7, 8, 0] rfl)
        · have hF := oi_f hc hF
          refine lv_aload_n hx hb dX10_readingOf_99 rfl (lv_at hl 5 rfl) ?_
          refine lv_iload_n hx hb dX10_readingOf_100 rfl (lv_at hl 6 rfl) ?_
          refine lv_iload_n hx hb dX10_readingOf_101 rfl (lv_at hl 7 rfl) ?_
          refine lv_iconst (v := (4 : Int32)) hx hb dX10_readingOf_102 (by decide) ?_
          refine lv_iload hx hb dX10_readingOf_103 (lv_at hl 0 rfl) ?_
          obtain ⟨_, hrec, hF⟩ := ob hF
          obtain ⟨v105, hcl, hF⟩ := ob hF
          refine go_SI (r_V (rest := []) (As := [.int x1, .int x2, .int (4 : Int32), .int v49]) C0 cb_X10_204 M hrec (tX10_fits l D cy ad A hcl) (pre_R C0 M) hl dX10_readingOf_105 rfl (Nat.le_of_ble_eq_true rfl) ⟨rfl, rfl⟩ ⟨Nat.le_of_ble_eq_true rfl, Nat.le_of_ble_eq_true rfl⟩ ⟨Nat.le_of_ble_eq_true rfl, Nat.le_of_ble_eq_true rfl⟩ rfl) ?_
          refine lv_if_eq (tgt := 115) hx hb dX10_readingOf_108 (by decide) (fun hc => ?_) (fun hc => ?_)
          · have hF := oi_t hc hF
            exact wX10_readingOf_115 ad A C0 M hr hF (lv_sub hl [7, 8, 0] rfl)
          · have hF := oi_f hc hF
            refine lv_iconst (v := (1 : Int32)) hx hb dX10_readingOf_111 (by decide) ?_
            refine lv_goto (tgt := 116) hx hb dX10_readingOf_112 (by decide) ?_
            exact wX10_readingOf_116 ad A C0 M hr hF (lv_sub hl [7, 8, 0] rfl)
set_option maxHeartbeats 4000000 in
set_option maxRecDepth 100000 in
theorem tX10_readingOf (l : Launch) (D : va_G) (cy : Nat → ClassId) (ad : Nat → Nat) (A : Nat → Prop) {S : MS} {a0 : Nat} {a1 : Int32} {a2 : Int32} {a3 : Int32} {r : Int32} (h : fX10_readingOf S a0 a1 a2 a3 = some r) : Met l yX10_readingOf [Cond.code yX10_readingOf cX10_readingOf 10 (some .int)] rmX10_readingOf (PcR D cy ad A S [.ref (ad a0), .int a1, .int a2, .int a3]) (QcS (some (.int r))) 0 0 (fun _ => False) := by
  refine met_R (by decide +kernel) cw_X10_readingOf (Nat.le_of_ble_eq_true rfl) ?_
  intro p e s m args below meth c ls C0 M hr hl
  have hl : lv_has ls 10 [(0, .ref (ad a0)), (1, .int a1), (2, .int a2), (3, .int a3)] := hl
  exact wX10_readingOf_0 ad A C0 M hr h hl
set_option maxHeartbeats 4000000 in
set_option maxRecDepth 100000 in
theorem wX10_mendedOf_0 {p : Program} {l : Launch} {e : Env} {s : State} {m : MethodId} {args : Array Value} {below : List Frame} {meth : Method} {c : Code} {D : va_G} {cy : Nat → ClassId} (ad : Nat → Nat) (A : Nat → Prop) {S : MS} {r : Int32} {out : ((Nat × Int32 × Int32 × Int32 × Int32) ⊕ Int32)} {ls : Array Slot} {x0 : Nat} {x1 : Int32} (C0 : CX p s m args meth c RX10 cX10_mendedOf 6 D cy) (M : MW D cy ad A S s.heap) (hr : meth.sig.returnType = some .int) (hF : bX10_mendedOf_0 S x0 x1 = some out) (hl : lv_has ls 6 [(0, .ref (ad x0)), (1, .int x1)]) (Kr : ∀ r9, out = .inr r9 → r9 = r) (Kh0 : ∀ (y0 : Nat) (y1 : Int32) (y2 : Int32) (y3 : Int32) (y4 : Int32), out = .inl (y0, y1, y2, y3, y4) → ∀ (ls1 : Array Slot), lv_has ls1 6 [(0, .ref (ad y0)), (1, .int y1), (2, .int y2), (3, .int y3), (4, .int y4)] → W p l e rmX10_mendedOf s m args below meth c s.heap [] 0 0 (MQ below (QcS (some (.int r))) args s 0 0 (fun _ => False)) (F0 m 29 ls1 [])) : W p l e rmX10_mendedOf s m args below meth c s.heap [] 0 0 (MQ below (QcS (some (.int r))) args s 0 0 (fun _ => False)) (F0 m 0 ls []) := by
  unfold bX10_mendedOf_0 at hF
  obtain ⟨hx, hb, -, hown, -, hts, -⟩ := id C0
  refine lv_aload_n hx hb dX10_mendedOf_0 rfl (lv_at hl 0 rfl) ?_
  obtain ⟨v1, hv, hF⟩ := ob hF
  refine k_getP C0 M hv fl_X10_40 dX10_mendedOf_1 ?_
  refine lv_iload_n hx hb dX10_mendedOf_4 rfl (lv_at hl 1 rfl) ?_
  obtain ⟨v5, hv, hF⟩ := ob hF
  refine k_ld C0 M hv dX10_mendedOf_5 ?_
  refine lv_iconst (v := (1 : Int32)) hx hb dX10_mendedOf_6 (by decide) ?_
  refine lv_icmp_ne (tgt := 17) hx hb dX10_mendedOf_7 (by decide) (fun hc => ?_) (fun hc => ?_)
  · have hF := oi_f hc hF
    refine lv_aload_n hx hb dX10_mendedOf_17 rfl (lv_at hl 0 rfl) ?_
    refine lv_iload_n hx hb dX10_mendedOf_18 rfl (lv_at hl 1 rfl) ?_
    obtain ⟨_, hrec, hF⟩ := ob hF
    obtain ⟨v19, hcl, hF⟩ := ob hF
    refine go_SI (r_V (rest := []) (As := [.int x1]) C0 cb_X10_254 M hrec (tX10_guessOf l D cy ad A hcl) (pre_R C0 M) hl dX10_mendedOf_19 rfl (Nat.le_of_ble_eq_true rfl) ⟨rfl, rfl⟩ ⟨Nat.le_of_ble_eq_true rfl, Nat.le_of_ble_eq_true rfl⟩ ⟨Nat.le_of_ble_eq_true rfl, Nat.le_of_ble_eq_true rfl⟩ rfl) ?_
    refine lv_istore_n (lv' := [(2, .int v19), (0, .ref (ad x0)), (1, .int x1)]) hx hb dX10_mendedOf_22 rfl hl (by decide) rfl (fun ls hl => ?_)
    refine lv_bipush (v := (-9 : Int32)) hx hb dX10_mendedOf_23 (by decide) ?_
    refine lv_istore_n (lv' := [(3, .int (-9 : Int32)), (2, .int v19), (0, .ref (ad x0)), (1, .int x1)]) hx hb dX10_mendedOf_25 rfl hl (by decide) rfl (fun ls hl => ?_)
    refine lv_iconst (v := (0 : Int32)) hx hb dX10_mendedOf_26 (by decide) ?_
    refine lv_istore (lv' := [(4, .int (0 : Int32)), (3, .int (-9 : Int32)), (2, .int v19), (0, .ref (ad x0)), (1, .int x1)]) hx hb dX10_mendedOf_27 hl (by decide) rfl (fun ls hl => ?_)
    exact Kh0 _ _ _ _ _ (Option.some.inj hF).symm _ (lv_sub hl [3, 4, 2, 1, 0] rfl)
  · have hF := oi_t hc hF
    refine lv_aload_n hx hb dX10_mendedOf_10 rfl (lv_at hl 0 rfl) ?_
    obtain ⟨v11, hv, hF⟩ := ob hF
    refine k_getP C0 M hv fl_X10_43 dX10_mendedOf_11 ?_
    refine lv_iload_n hx hb dX10_mendedOf_14 rfl (lv_at hl 1 rfl) ?_
    obtain ⟨v15, hv, hF⟩ := ob hF
    refine k_ld C0 M hv dX10_mendedOf_15 ?_
    obtain rfl := (Kr _ (Option.some.inj hF).symm)
    exact rt_SI C0 hr dX10_mendedOf_16
set_option maxHeartbeats 4000000 in
set_option maxRecDepth 100000 in
theorem wX10_mendedOf_95 {p : Program} {l : Launch} {e : Env} {s : State} {m : MethodId} {args : Array Value} {below : List Frame} {meth : Method} {c : Code} {D : va_G} {cy : Nat → ClassId} (ad : Nat → Nat) (A : Nat → Prop) {S : MS} {r : Int32} {out : ((Nat × Int32 × Int32 × Int32 × Int32) ⊕ Int32)} {ls : Array Slot} {x0 : Nat} {x1 : Int32} {x2 : Int32} {x3 : Int32} {x4 : Int32} (C0 : CX p s m args meth c RX10 cX10_mendedOf 6 D cy) (M : MW D cy ad A S s.heap) (hr : meth.sig.returnType = some .int) (hF : bX10_mendedOf_95 S x0 x1 x2 x3 x4 = some out) (hl : lv_has ls 6 [(0, .ref (ad x0)), (1, .int x1), (2, .int x2), (3, .int x3), (4, .int x4)]) (Kr : ∀ r9, out = .inr r9 → r9 = r) (Kh0 : ∀ (y0 : Nat) (y1 : Int32) (y2 : Int32) (y3 : Int32) (y4 : Int32), out = .inl (y0, y1, y2, y3, y4) → ∀ (ls1 : Array Slot), lv_has ls1 6 [(0, .ref (ad y0)), (1, .int y1), (2, .int y2), (3, .int y3), (4, .int y4)] → W p l e rmX10_mendedOf s m args below meth c s.heap [] 0 0 (MQ below (QcS (some (.int r))) args s 0 0 (fun _ => False)) (F0 m 29 ls1 [])) : W p l e rmX10_mendedOf s m args below meth c s.heap [] 0 0 (MQ below (QcS (some (.int r))) args s 0 0 (fun _ => False)) (F0 m 95 ls []) := by
  unfold bX10_mendedOf_95 at hF
  obtain ⟨hx, hb, -, hown, -, hts, -⟩ := id C0
  obtain ⟨v95, hv, hF⟩ := ob hF
  refine lv_iinc (v := v95) (lv' := [(4, .int v95), (0, .ref (ad x0)), (1, .int x1), (2, .int x2), (3, .int x3)]) hx hb dX10_mendedOf_95 hl (k := 4) rfl (by rw [← vtI hv]; rfl) (by decide) rfl (fun ls hl => ?_)
  refine lv_goto (tgt := 29) hx hb dX10_mendedOf_98 (by decide) ?_
  exact Kh0 _ _ _ _ _ (Option.some.inj hF).symm _ (lv_sub hl [1, 2, 3, 4, 0] rfl)
set_option maxHeartbeats 4000000 in
set_option maxRecDepth 100000 in
theorem wX10_mendedOf_92 {p : Program} {l : Launch} {e : Env} {s : State} {m : MethodId} {args : Array Value} {below : List Frame} {meth : Method} {c : Code} {D : va_G} {cy : Nat → ClassId} (ad : Nat → Nat) (A : Nat → Prop) {S : MS} {r : Int32} {out : ((Nat × Int32 × Int32 × Int32 × Int32) ⊕ Int32)} {ls : Array Slot} {x0 : Nat} {x1 : Int32} {x2 : Int32} {x4 : Int32} {x5 : Int32} (C0 : CX p s m args meth c RX10 cX10_mendedOf 6 D cy) (M : MW D cy ad A S s.heap) (hr : meth.sig.returnType = some .int) (hF : bX10_mendedOf_92 S x0 x1 x2 x4 x5 = some out) (hl : lv_has ls 6 [(0, .ref (ad x0)), (1, .int x1), (2, .int x2), (4, .int x4), (5, .int x5)]) (Kr : ∀ r9, out = .inr r9 → r9 = r) (Kh0 : ∀ (y0 : Nat) (y1 : Int32) (y2 : Int32) (y3 : Int32) (y4 : Int32), out = .inl (y0, y1, y2, y3, y4) → ∀ (ls1 : Array Slot), lv_has ls1 6 [(0, .ref (ad y0)), (1, .int y1), (2, .int y2), (3, .int y3), (4, .int y4)] → W p l e rmX10_mendedOf s m args below meth c s.heap [] 0 0 (MQ below (QcS (some (.int r))) args s 0 0 (fun _ => False)) (F0 m 29 ls1 [])) : W p l e rmX10_mendedOf s m args below meth c s.heap [] 0 0 (MQ below (QcS (some (.int r))) args s 0 0 (fun _ => False)) (F0 m 92 ls []) := by
  unfold bX10_mendedOf_92 at hF
  obtain ⟨hx, hb, -, hown, -, hts, -⟩ := id C0
  refine lv_iload hx hb dX10_mendedOf_92 (lv_at hl 4 rfl) ?_
  refine lv_istore_n (lv' := [(3, .int x5), (0, .ref (ad x0)), (1, .int x1), (2, .int x2), (4, .int x4), (5, .int x5)]) hx hb dX10_mendedOf_94 rfl hl (by decide) rfl (fun ls hl => ?_)
  exact wX10_mendedOf_95 ad A C0 M hr hF (lv_sub hl [1, 2, 3, 0, 4] rfl) Kr Kh0
set_option maxHeartbeats 4000000 in
set_option maxRecDepth 100000 in
theorem wX10_mendedOf_29 {p : Program} {l : Launch} {e : Env} {s : State} {m : MethodId} {args : Array Value} {below : List Frame} {meth : Method} {c : Code} {D : va_G} {cy : Nat → ClassId} (ad : Nat → Nat) (A : Nat → Prop) {S : MS} {r : Int32} {out : ((Nat × Int32 × Int32 × Int32 × Int32) ⊕ Int32)} {ls : Array Slot} {x0 : Nat} {x1 : Int32} {x2 : Int32} {x3 : Int32} {x4 : Int32} (C0 : CX p s m args meth c RX10 cX10_mendedOf 6 D cy) (M : MW D cy ad A S s.heap) (hr : meth.sig.returnType = some .int) (hF : bX10_mendedOf_29 S x0 x1 x2 x3 x4 = some out) (hl : lv_has ls 6 [(0, .ref (ad x0)), (1, .int x1), (2, .int x2), (3, .int x3), (4, .int x4)]) (Kr : ∀ r9, out = .inr r9 → r9 = r) (Kh0 : ∀ (y0 : Nat) (y1 : Int32) (y2 : Int32) (y3 : Int32) (y4 : Int32), out = .inl (y0, y1, y2, y3, y4) → ∀ (ls1 : Array Slot), lv_has ls1 6 [(0, .ref (ad y0)), (1, .int y1), (2, .int y2), (3, .int y3), (4, .int y4)] → W p l e rmX10_mendedOf s m args below meth c s.heap [] 0 0 (MQ below (QcS (some (.int r))) args s 0 0 (fun _ => False)) (F0 m 29 ls1 [])) : W p l e rmX10_mendedOf s m args below meth c s.heap [] 0 0 (MQ below (QcS (some (.int r))) args s 0 0 (fun _ => False)) (F0 m 29 ls []) := by
  unfold bX10_mendedOf_29 at hF
  obtain ⟨hx, hb, -, hown, -, hts, -⟩ := id C0
  refine lv_iload hx hb dX10_mendedOf_29 (lv_at hl 4 rfl) ?_
  refine lv_sipush (v := (10000 : Int32)) hx hb dX10_mendedOf_31 (by decide) ?_
  refine lv_icmp_ge (tgt := 101) hx hb dX10_mendedOf_34 (by decide) (fun hc => ?_) (fun hc => ?_)
  · have hF := oi_t hc hF
    refine lv_iload_n hx hb dX10_mendedOf_101 rfl (lv_at hl 3 rfl) ?_
    obtain rfl := (Kr _ (Option.some.inj hF).symm)
    exact rt_SI C0 hr dX10_mendedOf_102
  · have hF := oi_f hc hF
    refine lv_aload_n hx hb dX10_mendedOf_37 rfl (lv_at hl 0 rfl) ?_
    refine lv_iload_n hx hb dX10_mendedOf_38 rfl (lv_at hl 1 rfl) ?_
    refine lv_iconst (v := (1 : Int32)) hx hb dX10_mendedOf_39 (by decide) ?_
    refine lv_iload hx hb dX10_mendedOf_40 (lv_at hl 4 rfl) ?_
    obtain ⟨_, hrec, hF⟩ := ob hF
    obtain ⟨v42, hcl, hF⟩ := ob hF
    refine go_SI (r_V (rest := []) (As := [.int x1, .int (1 : Int32), .int x4]) C0 cb_X10_208 M hrec (tX10_readingOf l D cy ad A hcl) (pre_R C0 M) hl dX10_mendedOf_42 rfl (Nat.le_of_ble_eq_true rfl) ⟨rfl, rfl⟩ ⟨Nat.le_of_ble_eq_true rfl, Nat.le_of_ble_eq_true rfl⟩ ⟨Nat.le_of_ble_eq_true rfl, Nat.le_of_ble_eq_true rfl⟩ rfl) ?_
    refine lv_istore (lv' := [(5, .int v42), (0, .ref (ad x0)), (1, .int x1), (2, .int x2), (3, .int x3), (4, .int x4)]) hx hb dX10_mendedOf_45 hl (by decide) rfl (fun ls hl => ?_)
    refine lv_iload hx hb dX10_mendedOf_47 (lv_at hl 0 rfl) ?_
    refine lv_if_lt (tgt := 95) hx hb dX10_mendedOf_49 (by decide) (fun hc => ?_) (fun hc => ?_)
    · have hF := oi_t hc hF
      exact wX10_mendedOf_95 ad A C0 M hr hF (lv_sub hl [1, 2, 3, 4, 5] rfl) Kr Kh0
    · have hF := oi_f hc hF
      refine lv_iload_n hx hb dX10_mendedOf_52 rfl (lv_at hl 4 rfl) ?_
      refine lv_if_lt (tgt := 92) hx hb dX10_mendedOf_53 (by decide) (fun hc => ?_) (fun hc => ?_)
      · have hF := oi_t hc hF
        exact wX10_mendedOf_92 ad A C0 M hr hF (lv_sub hl [1, 2, 3, 5, 0] rfl) Kr Kh0
      · have hF := oi_f hc hF
        refine lv_aload_n hx hb dX10_mendedOf_56 rfl (lv_at hl 1 rfl) ?_
        refine lv_aload_n hx hb dX10_mendedOf_57 rfl (lv_at hl 1 rfl) ?_
        obtain ⟨v58, hv, hF⟩ := ob hF
        refine k_getP C0 M hv fl_X10_28 dX10_mendedOf_58 ?_
        refine lv_iload_n hx hb dX10_mendedOf_61 rfl (lv_at hl 2 rfl) ?_
        obtain ⟨v62, hv, hF⟩ := ob hF
        refine k_ld C0 M hv dX10_mendedOf_62 ?_
        refine lv_iload hx hb dX10_mendedOf_63 (lv_at hl 0 rfl) ?_
        obtain ⟨_, hrec, hF⟩ := ob hF
        obtain ⟨v65, hcl, hF⟩ := ob hF
        refine go_SI (r_V (rest := []) (As := [.int v62, .int v42]) C0 cb_X10_251 M hrec (tX10_levelBy l D cy ad A hcl) (pre_R C0 M) hl dX10_mendedOf_65 rfl (Nat.le_of_ble_eq_true rfl) ⟨rfl, rfl⟩ ⟨Nat.le_of_ble_eq_true rfl, Nat.le_of_ble_eq_true rfl⟩ ⟨Nat.le_of_ble_eq_true rfl, Nat.le_of_ble_eq_true rfl⟩ rfl) ?_
        refine lv_iload_n hx hb dX10_mendedOf_68 rfl (lv_at hl 3 rfl) ?_
        refine lv_isub hx hb dX10_mendedOf_69 ?_
        obtain ⟨v70, hcl, hF⟩ := ob hF
        refine go_SI (r_S (rest := []) (As := [.int (v65 - x2)]) C0 cb_X10_195 (tX10_sizeOf l D cy ad hcl) (pre_S C0) hl dX10_mendedOf_70 rfl (Nat.le_of_ble_eq_true rfl) ⟨rfl, rfl⟩ ⟨Nat.le_of_ble_eq_true rfl, Nat.le_of_ble_eq_true rfl⟩ ⟨Nat.le_of_ble_eq_true rfl, Nat.le_of_ble_eq_true rfl⟩ rfl) ?_
        refine lv_aload_n hx hb dX10_mendedOf_73 rfl (lv_at hl 1 rfl) ?_
        refine lv_aload_n hx hb dX10_mendedOf_74 rfl (lv_at hl 1 rfl) ?_
        obtain ⟨v75, hv, hF⟩ := ob hF
        refine k_getP C0 M hv fl_X10_28 dX10_mendedOf_75 ?_
        refine lv_iload_n hx hb dX10_mendedOf_78 rfl (lv_at hl 2 rfl) ?_
        obtain ⟨v79, hv, hF⟩ := ob hF
        refine k_ld C0 M hv dX10_mendedOf_79 ?_
        refine lv_iload_n hx hb dX10_mendedOf_80 rfl (lv_at hl 4 rfl) ?_
        obtain ⟨_, hrec, hF⟩ := ob hF
        obtain ⟨v81, hcl, hF⟩ := ob hF
        refine go_SI (r_V (rest := [.int v70]) (As := [.int v79, .int x3]) C0 cb_X10_251 M hrec (tX10_levelBy l D cy ad A hcl) (pre_R C0 M) hl dX10_mendedOf_81 rfl (Nat.le_of_ble_eq_true rfl) ⟨rfl, rfl⟩ ⟨Nat.le_of_ble_eq_true rfl, Nat.le_of_ble_eq_true rfl⟩ ⟨Nat.le_of_ble_eq_true rfl, Nat.le_of_ble_eq_true rfl⟩ rfl) ?_
        refine lv_iload_n hx hb dX10_mendedOf_84 rfl (lv_at hl 3 rfl) ?_
        refine lv_isub hx hb dX10_mendedOf_85 ?_
        obtain ⟨v86, hcl, hF⟩ := ob hF
        refine go_SI (r_S (rest := [.int v70]) (As := [.int (v81 - x2)]) C0 cb_X10_195 (tX10_sizeOf l D cy ad hcl) (pre_S C0) hl dX10_mendedOf_86 rfl (Nat.le_of_ble_eq_true rfl) ⟨rfl, rfl⟩ ⟨Nat.le_of_ble_eq_true rfl, Nat.le_of_ble_eq_true rfl⟩ ⟨Nat.le_of_ble_eq_true rfl, Nat.le_of_ble_eq_true rfl⟩ rfl) ?_
        refine lv_icmp_ge (tgt := 95) hx hb dX10_mendedOf_89 (by decide) (fun hc => ?_) (fun hc => ?_)
        · have hF := oi_t hc hF
          exact wX10_mendedOf_95 ad A C0 M hr hF (lv_sub hl [1, 2, 3, 4, 5] rfl) Kr Kh0
        · have hF := oi_f hc hF
          exact wX10_mendedOf_92 ad A C0 M hr hF (lv_sub hl [1, 2, 3, 5, 0] rfl) Kr Kh0
set_option maxHeartbeats 4000000 in
set_option maxRecDepth 100000 in
theorem tX10_mendedOf (l : Launch) (D : va_G) (cy : Nat → ClassId) (ad : Nat → Nat) (A : Nat → Prop) {S : MS} {a0 : Nat} {a1 : Int32} {r : Int32} (h : fX10_mendedOf S a0 a1 = some r) : Met l yX10_mendedOf [Cond.code yX10_mendedOf cX10_mendedOf 6 (some .int)] rmX10_mendedOf (PcR D cy ad A S [.ref (ad a0), .int a1]) (QcS (some (.int r))) 0 0 (fun _ => False) := by
  refine met_R (by decide +kernel) cw_X10_mendedOf (Nat.le_of_ble_eq_true rfl) ?_
  intro p e s m args below meth c ls C0 M hr hl
  have hl : lv_has ls 6 [(0, .ref (ad a0)), (1, .int a1)] := hl
  have key := lim_walk (step := sX10_mendedOf S) (fun (q : (Nat × Int32 × Int32 × Int32 × Int32)) (r9 : Int32) => ∀ (r : Int32), r9 = r → ((∀ (y0 : Nat) (y1 : Int32) (y2 : Int32) (y3 : Int32) (y4 : Int32), q = (y0, y1, y2, y3, y4) → ∀ (ls1 : Array Slot), lv_has ls1 6 [(0, .ref (ad y0)), (1, .int y1), (2, .int y2), (3, .int y3), (4, .int y4)] → W p l e rmX10_mendedOf s m args below meth c s.heap [] 0 0 (MQ below (QcS (some (.int r))) args s 0 0 (fun _ => False)) (F0 m 29 ls1 [])))) ?_
  · unfold fX10_mendedOf at h
    cases hs0 : bX10_mendedOf_0 S a0 a1 with
    | none => rw [hs0] at h; cases h
    | some out =>
      rw [hs0] at h
      refine wX10_mendedOf_0 ad A C0 M hr hs0 hl (fun r9 hr9 => ?_) ?_
      · subst hr9; exact Option.some.inj h
      · intro y0 y1 y2 y3 y4 hq; subst hq; exact (key _ _ h _ rfl) _ _ _ _ _ rfl
  · intro q r9 out hst hre hin9
    intro r er; subst er
    refine ?_
    · intro y0 y1 y2 y3 y4 hq ls1 hl
      subst hq
      exact wX10_mendedOf_29 ad A C0 M hr hst hl hre (fun k0 k1 k2 k3 k4 hk => (hin9 _ hk _ rfl) _ _ _ _ _ rfl)
set_option maxHeartbeats 4000000 in
set_option maxRecDepth 100000 in
theorem wX10_back_25 {p : Program} {l : Launch} {e : Env} {s : State} {m : MethodId} {args : Array Value} {below : List Frame} {meth : Method} {c : Code} {D : va_G} {cy : Nat → ClassId} (ad : Nat → Nat) (A : Nat → Prop) {r : Int32} {ls : Array Slot} {z0 : Int32} (C0 : CX p s m args meth c RX10 cX10_back 2 D cy) (hr : meth.sig.returnType = some .int) (hF : bX10_back_25 z0 = some r) (hl : lv_has ls 2 []) : W p l e rmX10_back s m args below meth c s.heap [] 0 0 (MQ below (QcS (some (.int r))) args s 0 0 (fun _ => False)) (F0 m 25 ls [.int z0]) := by
  unfold bX10_back_25 at hF
  obtain ⟨hx, hb, -, hown, -, hts, -⟩ := id C0
  obtain rfl := (Option.some.inj hF)
  exact rt_SI C0 hr dX10_back_25
set_option maxHeartbeats 4000000 in
set_option maxRecDepth 100000 in
theorem wX10_back_0 {p : Program} {l : Launch} {e : Env} {s : State} {m : MethodId} {args : Array Value} {below : List Frame} {meth : Method} {c : Code} {D : va_G} {cy : Nat → ClassId} (ad : Nat → Nat) (A : Nat → Prop) {r : Int32} {ls : Array Slot} {x0 : Int32} (C0 : CX p s m args meth c RX10 cX10_back 2 D cy) (hr : meth.sig.returnType = some .int) (hF : bX10_back_0 x0 = some r) (hl : lv_has ls 2 [(0, .int x0)]) : W p l e rmX10_back s m args below meth c s.heap [] 0 0 (MQ below (QcS (some (.int r))) args s 0 0 (fun _ => False)) (F0 m 0 ls []) := by
  unfold bX10_back_0 at hF
  obtain ⟨hx, hb, -, hown, -, hts, -⟩ := id C0
  refine lv_iload_n hx hb dX10_back_0 rfl (lv_at hl 0 rfl) ?_
  refine lv_bipush (v := (22 : Int32)) hx hb dX10_back_1 (by decide) ?_
  refine lv_irem hx hb dX10_back_3 (by decide) ?_
  refine lv_bipush (v := (22 : Int32)) hx hb dX10_back_4 (by decide) ?_
  refine lv_iadd hx hb dX10_back_6 ?_
  refine lv_bipush (v := (22 : Int32)) hx hb dX10_back_7 (by decide) ?_
  refine lv_irem hx hb dX10_back_9 (by decide) ?_
  obtain ⟨v10, hv, hF⟩ := ob hF
  have hv := vtI hv
  refine vtopi hv ?_
  refine lv_istore_n (lv' := [(1, .int v10), (0, .int x0)]) hx hb dX10_back_10 rfl hl (by decide) rfl (fun ls hl => ?_)
  refine lv_iload_n hx hb dX10_back_11 rfl (lv_at hl 0 rfl) ?_
  refine lv_bipush (v := (11 : Int32)) hx hb dX10_back_12 (by decide) ?_
  refine lv_icmp_le (tgt := 24) hx hb dX10_back_14 (by decide) (fun hc => ?_) (fun hc => ?_)
  · have hF := oi_t hc hF
    refine lv_iload_n hx hb dX10_back_24 rfl (lv_at hl 0 rfl) ?_
    exact wX10_back_25 ad A C0 hr hF (lv_sub hl [] rfl)
  · have hF := oi_f hc hF
    refine lv_bipush (v := (22 : Int32)) hx hb dX10_back_17 (by decide) ?_
    refine lv_iload_n hx hb dX10_back_19 rfl (lv_at hl 0 rfl) ?_
    refine lv_isub hx hb dX10_back_20 ?_
    refine lv_goto (tgt := 25) hx hb dX10_back_21 (by decide) ?_
    exact wX10_back_25 ad A C0 hr hF (lv_sub hl [] rfl)
set_option maxHeartbeats 4000000 in
set_option maxRecDepth 100000 in
theorem tX10_back (l : Launch) (D : va_G) (cy : Nat → ClassId) (ad : Nat → Nat) {a0 : Int32} {r : Int32} (h : fX10_back a0 = some r) : Met l yX10_back [Cond.code yX10_back cX10_back 2 (some .int)] rmX10_back (PcS D cy [.int a0]) (QcS (some (.int r))) 0 0 (fun _ => False) := by
  refine met_S (by decide +kernel) cw_X10_back (Nat.le_of_ble_eq_true rfl) ?_
  intro p e s m args below meth c ls C0 hr hl
  have hl : lv_has ls 2 [(0, .int a0)] := hl
  exact wX10_back_0 ad (fun _ => False) C0 hr h hl
set_option maxHeartbeats 4000000 in
set_option maxRecDepth 100000 in
theorem wX10_in_18 {p : Program} {l : Launch} {e : Env} {s : State} {m : MethodId} {args : Array Value} {below : List Frame} {meth : Method} {c : Code} {D : va_G} {cy : Nat → ClassId} (ad : Nat → Nat) (A : Nat → Prop) {r : Int32} {ls : Array Slot} {z0 : Int32} (C0 : CX p s m args meth c RX10 cX10_in 6 D cy) (hr : meth.sig.returnType = some .boolean) (hF : bX10_in_18 z0 = some r) (hl : lv_has ls 6 []) : W p l e rmX10_in s m args below meth c s.heap [] 0 0 (MQ below (QcS (some (.int r))) args s 0 0 (fun _ => False)) (F0 m 18 ls [.int z0]) := by
  unfold bX10_in_18 at hF
  obtain ⟨hx, hb, -, hown, -, hts, -⟩ := id C0
  obtain ⟨z18, hz, hF⟩ := ob hF
  have hz2 := (o_if hz).2
  refine vtopi hz2 ?_
  rw [hz2] at hz
  obtain rfl := (Option.some.inj hF)
  exact rt_SZ C0 hr hz dX10_in_18
set_option maxHeartbeats 4000000 in
set_option maxRecDepth 100000 in
theorem wX10_in_17 {p : Program} {l : Launch} {e : Env} {s : State} {m : MethodId} {args : Array Value} {below : List Frame} {meth : Method} {c : Code} {D : va_G} {cy : Nat → ClassId} (ad : Nat → Nat) (A : Nat → Prop) {r : Int32} {ls : Array Slot} (C0 : CX p s m args meth c RX10 cX10_in 6 D cy) (hr : meth.sig.returnType = some .boolean) (hF : bX10_in_17 = some r) (hl : lv_has ls 6 []) : W p l e rmX10_in s m args below meth c s.heap [] 0 0 (MQ below (QcS (some (.int r))) args s 0 0 (fun _ => False)) (F0 m 17 ls []) := by
  unfold bX10_in_17 at hF
  obtain ⟨hx, hb, -, hown, -, hts, -⟩ := id C0
  refine lv_iconst (v := (0 : Int32)) hx hb dX10_in_17 (by decide) ?_
  exact wX10_in_18 ad A C0 hr hF (lv_sub hl [] rfl)
set_option maxHeartbeats 4000000 in
set_option maxRecDepth 100000 in
theorem wX10_in_0 {p : Program} {l : Launch} {e : Env} {s : State} {m : MethodId} {args : Array Value} {below : List Frame} {meth : Method} {c : Code} {D : va_G} {cy : Nat → ClassId} (ad : Nat → Nat) (A : Nat → Prop) {r : Int32} {ls : Array Slot} {x0 : Int64} {x2 : Int64} {x4 : Int64} (C0 : CX p s m args meth c RX10 cX10_in 6 D cy) (hr : meth.sig.returnType = some .boolean) (hF : bX10_in_0 x0 x2 x4 = some r) (hl : lv_has ls 6 [(0, .long x0), (2, .long x2), (4, .long x4)]) : W p l e rmX10_in s m args below meth c s.heap [] 0 0 (MQ below (QcS (some (.int r))) args s 0 0 (fun _ => False)) (F0 m 0 ls []) := by
  unfold bX10_in_0 at hF
  obtain ⟨hx, hb, -, hown, -, hts, -⟩ := id C0
  refine lv_lload_n hx hb dX10_in_0 rfl (lv_at hl 0 rfl) ?_
  refine lv_lload_n hx hb dX10_in_1 rfl (lv_at hl 1 rfl) ?_
  refine W.lcmp hx hb dX10_in_2 ?_
  refine lv_if_lt (tgt := 17) hx hb dX10_in_3 (by decide) (fun hc => ?_) (fun hc => ?_)
  · have hF := oi_t hc hF
    exact wX10_in_17 ad A C0 hr hF (lv_sub hl [] rfl)
  · have hF := oi_f hc hF
    refine lv_lload_n hx hb dX10_in_6 rfl (lv_at hl 0 rfl) ?_
    refine lv_lload hx hb dX10_in_7 (lv_at hl 2 rfl) ?_
    refine W.lcmp hx hb dX10_in_9 ?_
    refine lv_if_gt (tgt := 17) hx hb dX10_in_10 (by decide) (fun hc => ?_) (fun hc => ?_)
    · have hF := oi_t hc hF
      exact wX10_in_17 ad A C0 hr hF (lv_sub hl [] rfl)
    · have hF := oi_f hc hF
      refine lv_iconst (v := (1 : Int32)) hx hb dX10_in_13 (by decide) ?_
      refine lv_goto (tgt := 18) hx hb dX10_in_14 (by decide) ?_
      exact wX10_in_18 ad A C0 hr hF (lv_sub hl [] rfl)
set_option maxHeartbeats 4000000 in
set_option maxRecDepth 100000 in
theorem tX10_in (l : Launch) (D : va_G) (cy : Nat → ClassId) (ad : Nat → Nat) {a0 : Int64} {a2 : Int64} {a4 : Int64} {r : Int32} (h : fX10_in a0 a2 a4 = some r) : Met l yX10_in [Cond.code yX10_in cX10_in 6 (some .boolean)] rmX10_in (PcS D cy [.long a0, .long a2, .long a4]) (QcS (some (.int r))) 0 0 (fun _ => False) := by
  refine met_S (by decide +kernel) cw_X10_in (Nat.le_of_ble_eq_true rfl) ?_
  intro p e s m args below meth c ls C0 hr hl
  have hl : lv_has ls 6 [(0, .long a0), (2, .long a2), (4, .long a4)] := hl
  exact wX10_in_0 ad (fun _ => False) C0 hr h hl
set_option maxHeartbeats 4000000 in
set_option maxRecDepth 100000 in
theorem wX10_isPlace_29 {p : Program} {l : Launch} {e : Env} {s : State} {m : MethodId} {args : Array Value} {below : List Frame} {meth : Method} {c : Code} {D : va_G} {cy : Nat → ClassId} (ad : Nat → Nat) (A : Nat → Prop) {r : Int32} {ls : Array Slot} {z0 : Int32} (C0 : CX p s m args meth c RX10 cX10_isPlace 2 D cy) (hr : meth.sig.returnType = some .boolean) (hF : bX10_isPlace_29 z0 = some r) (hl : lv_has ls 2 []) : W p l e rmX10_isPlace s m args below meth c s.heap [] 0 0 (MQ below (QcS (some (.int r))) args s 0 0 (fun _ => False)) (F0 m 29 ls [.int z0]) := by
  unfold bX10_isPlace_29 at hF
  obtain ⟨hx, hb, -, hown, -, hts, -⟩ := id C0
  obtain ⟨z29, hz, hF⟩ := ob hF
  have hz2 := (o_if hz).2
  refine vtopi hz2 ?_
  rw [hz2] at hz
  obtain rfl := (Option.some.inj hF)
  exact rt_SZ C0 hr hz dX10_isPlace_29
set_option maxHeartbeats 4000000 in
set_option maxRecDepth 100000 in
theorem wX10_isPlace_28 {p : Program} {l : Launch} {e : Env} {s : State} {m : MethodId} {args : Array Value} {below : List Frame} {meth : Method} {c : Code} {D : va_G} {cy : Nat → ClassId} (ad : Nat → Nat) (A : Nat → Prop) {r : Int32} {ls : Array Slot} (C0 : CX p s m args meth c RX10 cX10_isPlace 2 D cy) (hr : meth.sig.returnType = some .boolean) (hF : bX10_isPlace_28 = some r) (hl : lv_has ls 2 []) : W p l e rmX10_isPlace s m args below meth c s.heap [] 0 0 (MQ below (QcS (some (.int r))) args s 0 0 (fun _ => False)) (F0 m 28 ls []) := by
  unfold bX10_isPlace_28 at hF
  obtain ⟨hx, hb, -, hown, -, hts, -⟩ := id C0
  refine lv_iconst (v := (0 : Int32)) hx hb dX10_isPlace_28 (by decide) ?_
  exact wX10_isPlace_29 ad A C0 hr hF (lv_sub hl [] rfl)
set_option maxHeartbeats 4000000 in
set_option maxRecDepth 100000 in
theorem wX10_isPlace_0 {p : Program} {l : Launch} {e : Env} {s : State} {m : MethodId} {args : Array Value} {below : List Frame} {meth : Method} {c : Code} {D : va_G} {cy : Nat → ClassId} (ad : Nat → Nat) (A : Nat → Prop) {r : Int32} {ls : Array Slot} {x0 : Int32} {x1 : Int32} (C0 : CX p s m args meth c RX10 cX10_isPlace 2 D cy) (hr : meth.sig.returnType = some .boolean) (hF : bX10_isPlace_0 x0 x1 = some r) (hl : lv_has ls 2 [(0, .int x0), (1, .int x1)]) : W p l e rmX10_isPlace s m args below meth c s.heap [] 0 0 (MQ below (QcS (some (.int r))) args s 0 0 (fun _ => False)) (F0 m 0 ls []) := by
  unfold bX10_isPlace_0 at hF
  obtain ⟨hx, hb, -, hown, -, hts, -⟩ := id C0
  refine lv_iload_n hx hb dX10_isPlace_0 rfl (lv_at hl 0 rfl) ?_
  refine lv_i2l (v := (x0.toInt64)) hx hb dX10_isPlace_1 rfl ?_
  refine lv_lconst (v := (0 : Int64)) hx hb dX10_isPlace_2 (by decide) ?_
  refine lv_ldc2 (v := (11 : Int64)) hx hb hown (hts _ (uw_of 1257 (by decide +kernel) rfl)) dX10_isPlace_3 ?_
  obtain ⟨v6, hcl, hF⟩ := ob hF
  refine go_SI (r_S (rest := []) (As := [.long (x0.toInt64), .long (0 : Int64), .long (11 : Int64)]) C0 cb_X10_156 (tX10_in l D cy ad hcl) (pre_S C0) hl dX10_isPlace_6 rfl (Nat.le_of_ble_eq_true rfl) ⟨rfl, rfl⟩ ⟨Nat.le_of_ble_eq_true rfl, Nat.le_of_ble_eq_true rfl⟩ ⟨Nat.le_of_ble_eq_true rfl, Nat.le_of_ble_eq_true rfl⟩ rfl) ?_
  refine lv_if_eq (tgt := 28) hx hb dX10_isPlace_9 (by decide) (fun hc => ?_) (fun hc => ?_)
  · have hF := oi_t hc hF
    exact wX10_isPlace_28 ad A C0 hr hF (lv_sub hl [] rfl)
  · have hF := oi_f hc hF
    refine lv_iload_n hx hb dX10_isPlace_12 rfl (lv_at hl 1 rfl) ?_
    refine lv_i2l (v := (x1.toInt64)) hx hb dX10_isPlace_13 rfl ?_
    refine lv_lconst (v := (0 : Int64)) hx hb dX10_isPlace_14 (by decide) ?_
    refine lv_ldc2 (v := (11 : Int64)) hx hb hown (hts _ (uw_of 1257 (by decide +kernel) rfl)) dX10_isPlace_15 ?_
    obtain ⟨v18, hcl, hF⟩ := ob hF
    refine go_SI (r_S (rest := []) (As := [.long (x1.toInt64), .long (0 : Int64), .long (11 : Int64)]) C0 cb_X10_156 (tX10_in l D cy ad hcl) (pre_S C0) hl dX10_isPlace_18 rfl (Nat.le_of_ble_eq_true rfl) ⟨rfl, rfl⟩ ⟨Nat.le_of_ble_eq_true rfl, Nat.le_of_ble_eq_true rfl⟩ ⟨Nat.le_of_ble_eq_true rfl, Nat.le_of_ble_eq_true rfl⟩ rfl) ?_
    refine lv_if_eq (tgt := 28) hx hb dX10_isPlace_21 (by decide) (fun hc => ?_) (fun hc => ?_)
    · have hF := oi_t hc hF
      exact wX10_isPlace_28 ad A C0 hr hF (lv_sub hl [] rfl)
    · have hF := oi_f hc hF
      refine lv_iconst (v := (1 : Int32)) hx hb dX10_isPlace_24 (by decide) ?_
      refine lv_goto (tgt := 29) hx hb dX10_isPlace_25 (by decide) ?_
      exact wX10_isPlace_29 ad A C0 hr hF (lv_sub hl [] rfl)
set_option maxHeartbeats 4000000 in
set_option maxRecDepth 100000 in
theorem tX10_isPlace (l : Launch) (D : va_G) (cy : Nat → ClassId) (ad : Nat → Nat) {a0 : Int32} {a1 : Int32} {r : Int32} (h : fX10_isPlace a0 a1 = some r) : Met l yX10_isPlace [Cond.code yX10_isPlace cX10_isPlace 2 (some .boolean)] rmX10_isPlace (PcS D cy [.int a0, .int a1]) (QcS (some (.int r))) 0 0 (fun _ => False) := by
  refine met_S (by decide +kernel) cw_X10_isPlace (Nat.le_of_ble_eq_true rfl) ?_
  intro p e s m args below meth c ls C0 hr hl
  have hl : lv_has ls 2 [(0, .int a0), (1, .int a1)] := hl
  exact wX10_isPlace_0 ad (fun _ => False) C0 hr h hl
set_option maxHeartbeats 4000000 in
set_option maxRecDepth 100000 in
theorem wX10_placeOf_114 {p : Program} {l : Launch} {e : Env} {s : State} {m : MethodId} {args : Array Value} {below : List Frame} {meth : Method} {c : Code} {D : va_G} {cy : Nat → ClassId} (ad : Nat → Nat) (A : Nat → Prop) {S : MS} {r : Int32} {ls : Array Slot} {z0 : Int32} (C0 : CX p s m args meth c RX10 cX10_placeOf 5 D cy) (M : MW D cy ad A S s.heap) (hr : meth.sig.returnType = some .int) (hF : bX10_placeOf_114 S z0 = some r) (hl : lv_has ls 5 []) : W p l e rmX10_placeOf s m args below meth c s.heap [] 0 0 (MQ below (QcS (some (.int r))) args s 0 0 (fun _ => False)) (F0 m 114 ls [.int z0]) := by
  unfold bX10_placeOf_114 at hF
  obtain ⟨hx, hb, -, hown, -, hts, -⟩ := id C0
  obtain rfl := (Option.some.inj hF)
  exact rt_SI C0 hr dX10_placeOf_114
set_option maxHeartbeats 4000000 in
set_option maxRecDepth 100000 in
theorem wX10_placeOf_0 {p : Program} {l : Launch} {e : Env} {s : State} {m : MethodId} {args : Array Value} {below : List Frame} {meth : Method} {c : Code} {D : va_G} {cy : Nat → ClassId} (ad : Nat → Nat) (A : Nat → Prop) {S : MS} {r : Int32} {ls : Array Slot} {x0 : Nat} {x1 : Int32} {x2 : Int32} (C0 : CX p s m args meth c RX10 cX10_placeOf 5 D cy) (M : MW D cy ad A S s.heap) (hr : meth.sig.returnType = some .int) (hF : bX10_placeOf_0 S x0 x1 x2 = some r) (hl : lv_has ls 5 [(0, .ref (ad x0)), (1, .int x1), (2, .int x2)]) : W p l e rmX10_placeOf s m args below meth c s.heap [] 0 0 (MQ below (QcS (some (.int r))) args s 0 0 (fun _ => False)) (F0 m 0 ls []) := by
  unfold bX10_placeOf_0 at hF
  obtain ⟨hx, hb, -, hown, -, hts, -⟩ := id C0
  refine lv_aload_n hx hb dX10_placeOf_0 rfl (lv_at hl 0 rfl) ?_
  obtain ⟨v1, hv, hF⟩ := ob hF
  refine k_getP C0 M hv fl_X10_7 dX10_placeOf_1 ?_
  refine lv_iload_n hx hb dX10_placeOf_4 rfl (lv_at hl 1 rfl) ?_
  obtain ⟨v5, hv, hF⟩ := ob hF
  refine k_ld C0 M hv dX10_placeOf_5 ?_
  refine lv_if_ne (tgt := 26) hx hb dX10_placeOf_6 (by decide) (fun hc => ?_) (fun hc => ?_)
  · have hF := oi_f hc hF
    refine lv_aload_n hx hb dX10_placeOf_26 rfl (lv_at hl 0 rfl) ?_
    obtain ⟨v27, hv, hF⟩ := ob hF
    refine k_getP C0 M hv fl_X10_13 dX10_placeOf_27 ?_
    refine lv_iload_n hx hb dX10_placeOf_30 rfl (lv_at hl 1 rfl) ?_
    obtain ⟨v31, hv, hF⟩ := ob hF
    refine k_ld C0 M hv dX10_placeOf_31 ?_
    refine lv_aload_n hx hb dX10_placeOf_32 rfl (lv_at hl 0 rfl) ?_
    obtain ⟨v33, hv, hF⟩ := ob hF
    refine k_getP C0 M hv fl_X10_22 dX10_placeOf_33 ?_
    refine lv_iload_n hx hb dX10_placeOf_36 rfl (lv_at hl 1 rfl) ?_
    obtain ⟨v37, hv, hF⟩ := ob hF
    refine k_ld C0 M hv dX10_placeOf_37 ?_
    refine lv_iload_n hx hb dX10_placeOf_38 rfl (lv_at hl 2 rfl) ?_
    refine lv_imul hx hb dX10_placeOf_39 ?_
    refine lv_bipush (v := (10 : Int32)) hx hb dX10_placeOf_40 (by decide) ?_
    obtain ⟨v42, hcl, hF⟩ := ob hF
    refine go_SI (r_S (rest := [.int v31]) (As := [.int (v37 * x2), .int (10 : Int32)]) C0 cb_X10_178 (tX10_by l D cy ad hcl) (pre_S C0) hl dX10_placeOf_42 rfl (Nat.le_of_ble_eq_true rfl) ⟨rfl, rfl⟩ ⟨Nat.le_of_ble_eq_true rfl, Nat.le_of_ble_eq_true rfl⟩ ⟨Nat.le_of_ble_eq_true rfl, Nat.le_of_ble_eq_true rfl⟩ rfl) ?_
    refine lv_iadd hx hb dX10_placeOf_45 ?_
    obtain ⟨v46, hv, hF⟩ := ob hF
    have hv := vtI hv
    refine vtopi hv ?_
    refine lv_istore_n (lv' := [(3, .int v46), (0, .ref (ad x0)), (1, .int x1), (2, .int x2)]) hx hb dX10_placeOf_46 rfl hl (by decide) rfl (fun ls hl => ?_)
    refine lv_aload_n hx hb dX10_placeOf_47 rfl (lv_at hl 1 rfl) ?_
    obtain ⟨v48, hv, hF⟩ := ob hF
    refine k_getP C0 M hv fl_X10_16 dX10_placeOf_48 ?_
    refine lv_iload_n hx hb dX10_placeOf_51 rfl (lv_at hl 2 rfl) ?_
    obtain ⟨v52, hv, hF⟩ := ob hF
    refine k_ld C0 M hv dX10_placeOf_52 ?_
    refine lv_aload_n hx hb dX10_placeOf_53 rfl (lv_at hl 1 rfl) ?_
    obtain ⟨v54, hv, hF⟩ := ob hF
    refine k_getP C0 M hv fl_X10_25 dX10_placeOf_54 ?_
    refine lv_iload_n hx hb dX10_placeOf_57 rfl (lv_at hl 2 rfl) ?_
    obtain ⟨v58, hv, hF⟩ := ob hF
    refine k_ld C0 M hv dX10_placeOf_58 ?_
    refine lv_iload_n hx hb dX10_placeOf_59 rfl (lv_at hl 3 rfl) ?_
    refine lv_imul hx hb dX10_placeOf_60 ?_
    refine lv_bipush (v := (10 : Int32)) hx hb dX10_placeOf_61 (by decide) ?_
    obtain ⟨v63, hcl, hF⟩ := ob hF
    refine go_SI (r_S (rest := [.int v52]) (As := [.int (v58 * x2), .int (10 : Int32)]) C0 cb_X10_178 (tX10_by l D cy ad hcl) (pre_S C0) hl dX10_placeOf_63 rfl (Nat.le_of_ble_eq_true rfl) ⟨rfl, rfl⟩ ⟨Nat.le_of_ble_eq_true rfl, Nat.le_of_ble_eq_true rfl⟩ ⟨Nat.le_of_ble_eq_true rfl, Nat.le_of_ble_eq_true rfl⟩ rfl) ?_
    refine lv_iadd hx hb dX10_placeOf_66 ?_
    obtain ⟨v67, hv, hF⟩ := ob hF
    have hv := vtI hv
    refine vtopi hv ?_
    refine lv_istore (lv' := [(4, .int v67), (3, .int v46), (0, .ref (ad x0)), (1, .int x1), (2, .int x2)]) hx hb dX10_placeOf_67 hl (by decide) rfl (fun ls hl => ?_)
    refine lv_aload_n hx hb dX10_placeOf_69 rfl (lv_at hl 2 rfl) ?_
    obtain ⟨v70, hv, hF⟩ := ob hF
    refine k_getP C0 M hv fl_X10_7 dX10_placeOf_70 ?_
    refine lv_iload_n hx hb dX10_placeOf_73 rfl (lv_at hl 3 rfl) ?_
    obtain ⟨v74, hv, hF⟩ := ob hF
    refine k_ld C0 M hv dX10_placeOf_74 ?_
    refine lv_iconst (v := (2 : Int32)) hx hb dX10_placeOf_75 (by decide) ?_
    refine lv_icmp_ne (tgt := 93) hx hb dX10_placeOf_76 (by decide) (fun hc => ?_) (fun hc => ?_)
    · have hF := oi_f hc hF
      refine lv_iload_n hx hb dX10_placeOf_93 rfl (lv_at hl 1 rfl) ?_
      refine lv_iload hx hb dX10_placeOf_94 (lv_at hl 0 rfl) ?_
      obtain ⟨v96, hcl, hF⟩ := ob hF
      refine go_SI (r_S (rest := []) (As := [.int v46, .int v67]) C0 cb_X10_164 (tX10_isPlace l D cy ad hcl) (pre_S C0) hl dX10_placeOf_96 rfl (Nat.le_of_ble_eq_true rfl) ⟨rfl, rfl⟩ ⟨Nat.le_of_ble_eq_true rfl, Nat.le_of_ble_eq_true rfl⟩ ⟨Nat.le_of_ble_eq_true rfl, Nat.le_of_ble_eq_true rfl⟩ rfl) ?_
      refine lv_if_eq (tgt := 112) hx hb dX10_placeOf_99 (by decide) (fun hc => ?_) (fun hc => ?_)
      · have hF := oi_t hc hF
        refine lv_bipush (v := (-9 : Int32)) hx hb dX10_placeOf_112 (by decide) ?_
        exact wX10_placeOf_114 ad A C0 M hr hF (lv_sub hl [] rfl)
      · have hF := oi_f hc hF
        refine lv_bipush (v := (12 : Int32)) hx hb dX10_placeOf_102 (by decide) ?_
        refine lv_iload hx hb dX10_placeOf_104 (lv_at hl 0 rfl) ?_
        refine lv_imul hx hb dX10_placeOf_106 ?_
        refine lv_iload_n hx hb dX10_placeOf_107 rfl (lv_at hl 1 rfl) ?_
        refine lv_iadd hx hb dX10_placeOf_108 ?_
        refine lv_goto (tgt := 114) hx hb dX10_placeOf_109 (by decide) ?_
        exact wX10_placeOf_114 ad A C0 M hr hF (lv_sub hl [] rfl)
    · have hF := oi_t hc hF
      refine lv_bipush (v := (12 : Int32)) hx hb dX10_placeOf_79 (by decide) ?_
      refine lv_iload hx hb dX10_placeOf_81 (lv_at hl 0 rfl) ?_
      obtain ⟨v83, hcl, hF⟩ := ob hF
      refine go_SI (r_S (rest := [.int (12 : Int32)]) (As := [.int v67]) C0 cb_X10_182 (tX10_back l D cy ad hcl) (pre_S C0) hl dX10_placeOf_83 rfl (Nat.le_of_ble_eq_true rfl) ⟨rfl, rfl⟩ ⟨Nat.le_of_ble_eq_true rfl, Nat.le_of_ble_eq_true rfl⟩ ⟨Nat.le_of_ble_eq_true rfl, Nat.le_of_ble_eq_true rfl⟩ rfl) ?_
      refine lv_imul hx hb dX10_placeOf_86 ?_
      refine lv_iload_n hx hb dX10_placeOf_87 rfl (lv_at hl 1 rfl) ?_
      obtain ⟨v88, hcl, hF⟩ := ob hF
      refine go_SI (r_S (rest := [.int ((12 : Int32) * v83)]) (As := [.int v46]) C0 cb_X10_182 (tX10_back l D cy ad hcl) (pre_S C0) hl dX10_placeOf_88 rfl (Nat.le_of_ble_eq_true rfl) ⟨rfl, rfl⟩ ⟨Nat.le_of_ble_eq_true rfl, Nat.le_of_ble_eq_true rfl⟩ ⟨Nat.le_of_ble_eq_true rfl, Nat.le_of_ble_eq_true rfl⟩ rfl) ?_
      refine lv_iadd hx hb dX10_placeOf_91 ?_
      obtain rfl := (Option.some.inj hF)
      exact rt_SI C0 hr dX10_placeOf_92
  · have hF := oi_t hc hF
    refine lv_bipush (v := (12 : Int32)) hx hb dX10_placeOf_9 (by decide) ?_
    refine lv_aload_n hx hb dX10_placeOf_11 rfl (lv_at hl 0 rfl) ?_
    obtain ⟨v12, hv, hF⟩ := ob hF
    refine k_getP C0 M hv fl_X10_16 dX10_placeOf_12 ?_
    refine lv_iload_n hx hb dX10_placeOf_15 rfl (lv_at hl 1 rfl) ?_
    obtain ⟨v16, hv, hF⟩ := ob hF
    refine k_ld C0 M hv dX10_placeOf_16 ?_
    refine lv_imul hx hb dX10_placeOf_17 ?_
    refine lv_aload_n hx hb dX10_placeOf_18 rfl (lv_at hl 0 rfl) ?_
    obtain ⟨v19, hv, hF⟩ := ob hF
    refine k_getP C0 M hv fl_X10_13 dX10_placeOf_19 ?_
    refine lv_iload_n hx hb dX10_placeOf_22 rfl (lv_at hl 1 rfl) ?_
    obtain ⟨v23, hv, hF⟩ := ob hF
    refine k_ld C0 M hv dX10_placeOf_23 ?_
    refine lv_iadd hx hb dX10_placeOf_24 ?_
    obtain rfl := (Option.some.inj hF)
    exact rt_SI C0 hr dX10_placeOf_25
set_option maxHeartbeats 4000000 in
set_option maxRecDepth 100000 in
theorem tX10_placeOf (l : Launch) (D : va_G) (cy : Nat → ClassId) (ad : Nat → Nat) (A : Nat → Prop) {S : MS} {a0 : Nat} {a1 : Int32} {a2 : Int32} {r : Int32} (h : fX10_placeOf S a0 a1 a2 = some r) : Met l yX10_placeOf [Cond.code yX10_placeOf cX10_placeOf 5 (some .int)] rmX10_placeOf (PcR D cy ad A S [.ref (ad a0), .int a1, .int a2]) (QcS (some (.int r))) 0 0 (fun _ => False) := by
  refine met_R (by decide +kernel) cw_X10_placeOf (Nat.le_of_ble_eq_true rfl) ?_
  intro p e s m args below meth c ls C0 M hr hl
  have hl : lv_has ls 5 [(0, .ref (ad a0)), (1, .int a1), (2, .int a2)] := hl
  exact wX10_placeOf_0 ad A C0 M hr h hl
set_option maxHeartbeats 4000000 in
set_option maxRecDepth 100000 in
theorem wX10_valueAt_0 {p : Program} {l : Launch} {e : Env} {s : State} {m : MethodId} {args : Array Value} {below : List Frame} {meth : Method} {c : Code} {D : va_G} {cy : Nat → ClassId} (ad : Nat → Nat) (A : Nat → Prop) {S : MS} {r : Int32} {out : ((Nat × Int32 × Int32 × Int32) ⊕ Int32)} {ls : Array Slot} {x0 : Nat} {x1 : Int32} (C0 : CX p s m args meth c RX10 cX10_valueAt 5 D cy) (M : MW D cy ad A S s.heap) (hr : meth.sig.returnType = some .int) (hF : bX10_valueAt_0 S x0 x1 = some out) (hl : lv_has ls 5 [(0, .ref (ad x0)), (1, .int x1)]) (Kr : ∀ r9, out = .inr r9 → r9 = r) (Kh0 : ∀ (y0 : Nat) (y1 : Int32) (y2 : Int32) (y3 : Int32), out = .inl (y0, y1, y2, y3) → ∀ (ls1 : Array Slot), lv_has ls1 5 [(0, .ref (ad y0)), (1, .int y1), (2, .int y2), (3, .int y3)] → W p l e rmX10_valueAt s m args below meth c s.heap [] 0 0 (MQ below (QcS (some (.int r))) args s 0 0 (fun _ => False)) (F0 m 5 ls1 [])) : W p l e rmX10_valueAt s m args below meth c s.heap [] 0 0 (MQ below (QcS (some (.int r))) args s 0 0 (fun _ => False)) (F0 m 0 ls []) := by
  unfold bX10_valueAt_0 at hF
  obtain ⟨hx, hb, -, hown, -, hts, -⟩ := id C0
  refine lv_bipush (v := (-9 : Int32)) hx hb dX10_valueAt_0 (by decide) ?_
  refine lv_istore_n (lv' := [(2, .int (-9 : Int32)), (0, .ref (ad x0)), (1, .int x1)]) hx hb dX10_valueAt_2 rfl hl (by decide) rfl (fun ls hl => ?_)
  refine lv_iconst (v := (0 : Int32)) hx hb dX10_valueAt_3 (by decide) ?_
  refine lv_istore_n (lv' := [(3, .int (0 : Int32)), (2, .int (-9 : Int32)), (0, .ref (ad x0)), (1, .int x1)]) hx hb dX10_valueAt_4 rfl hl (by decide) rfl (fun ls hl => ?_)
  exact Kh0 _ _ _ _ (Option.some.inj hF).symm _ (lv_sub hl [2, 3, 1, 0] rfl)
set_option maxHeartbeats 4000000 in
set_option maxRecDepth 100000 in
theorem wX10_valueAt_77 {p : Program} {l : Launch} {e : Env} {s : State} {m : MethodId} {args : Array Value} {below : List Frame} {meth : Method} {c : Code} {D : va_G} {cy : Nat → ClassId} (ad : Nat → Nat) (A : Nat → Prop) {S : MS} {r : Int32} {out : ((Nat × Int32 × Int32 × Int32) ⊕ Int32)} {ls : Array Slot} {x0 : Nat} {x1 : Int32} {x3 : Int32} {z0 : Int32} (C0 : CX p s m args meth c RX10 cX10_valueAt 5 D cy) (M : MW D cy ad A S s.heap) (hr : meth.sig.returnType = some .int) (hF : bX10_valueAt_77 S x0 x1 x3 z0 = some out) (hl : lv_has ls 5 [(0, .ref (ad x0)), (1, .int x1), (3, .int x3)]) (Kr : ∀ r9, out = .inr r9 → r9 = r) (Kh0 : ∀ (y0 : Nat) (y1 : Int32) (y2 : Int32) (y3 : Int32), out = .inl (y0, y1, y2, y3) → ∀ (ls1 : Array Slot), lv_has ls1 5 [(0, .ref (ad y0)), (1, .int y1), (2, .int y2), (3, .int y3)] → W p l e rmX10_valueAt s m args below meth c s.heap [] 0 0 (MQ below (QcS (some (.int r))) args s 0 0 (fun _ => False)) (F0 m 5 ls1 [])) : W p l e rmX10_valueAt s m args below meth c s.heap [] 0 0 (MQ below (QcS (some (.int r))) args s 0 0 (fun _ => False)) (F0 m 77 ls [.int z0]) := by
  unfold bX10_valueAt_77 at hF
  obtain ⟨hx, hb, -, hown, -, hts, -⟩ := id C0
  refine lv_istore_n (lv' := [(2, .int z0), (0, .ref (ad x0)), (1, .int x1), (3, .int x3)]) hx hb dX10_valueAt_77 rfl hl (by decide) rfl (fun ls hl => ?_)
  obtain ⟨v78, hv, hF⟩ := ob hF
  refine lv_iinc (v := v78) (lv' := [(3, .int v78), (2, .int z0), (0, .ref (ad x0)), (1, .int x1)]) hx hb dX10_valueAt_78 hl (k := 3) rfl (by rw [← vtI hv]; rfl) (by decide) rfl (fun ls hl => ?_)
  refine lv_goto (tgt := 5) hx hb dX10_valueAt_81 (by decide) ?_
  exact Kh0 _ _ _ _ (Option.some.inj hF).symm _ (lv_sub hl [2, 3, 1, 0] rfl)
set_option maxHeartbeats 4000000 in
set_option maxRecDepth 100000 in
theorem wX10_valueAt_72 {p : Program} {l : Launch} {e : Env} {s : State} {m : MethodId} {args : Array Value} {below : List Frame} {meth : Method} {c : Code} {D : va_G} {cy : Nat → ClassId} (ad : Nat → Nat) (A : Nat → Prop) {S : MS} {r : Int32} {out : ((Nat × Int32 × Int32 × Int32) ⊕ Int32)} {ls : Array Slot} {x0 : Nat} {x1 : Int32} {x3 : Int32} (C0 : CX p s m args meth c RX10 cX10_valueAt 5 D cy) (M : MW D cy ad A S s.heap) (hr : meth.sig.returnType = some .int) (hF : bX10_valueAt_72 S x0 x1 x3 = some out) (hl : lv_has ls 5 [(0, .ref (ad x0)), (1, .int x1), (3, .int x3)]) (Kr : ∀ r9, out = .inr r9 → r9 = r) (Kh0 : ∀ (y0 : Nat) (y1 : Int32) (y2 : Int32) (y3 : Int32), out = .inl (y0, y1, y2, y3) → ∀ (ls1 : Array Slot), lv_has ls1 5 [(0, .ref (ad y0)), (1, .int y1), (2, .int y2), (3, .int y3)] → W p l e rmX10_valueAt s m args below meth c s.heap [] 0 0 (MQ below (QcS (some (.int r))) args s 0 0 (fun _ => False)) (F0 m 5 ls1 [])) : W p l e rmX10_valueAt s m args below meth c s.heap [] 0 0 (MQ below (QcS (some (.int r))) args s 0 0 (fun _ => False)) (F0 m 72 ls []) := by
  unfold bX10_valueAt_72 at hF
  obtain ⟨hx, hb, -, hown, -, hts, -⟩ := id C0
  refine lv_iload_n hx hb dX10_valueAt_72 rfl (lv_at hl 2 rfl) ?_
  refine lv_goto (tgt := 77) hx hb dX10_valueAt_73 (by decide) ?_
  exact wX10_valueAt_77 ad A C0 M hr hF (lv_sub hl [0, 1, 2] rfl) Kr Kh0
set_option maxHeartbeats 4000000 in
set_option maxRecDepth 100000 in
theorem wX10_valueAt_76 {p : Program} {l : Launch} {e : Env} {s : State} {m : MethodId} {args : Array Value} {below : List Frame} {meth : Method} {c : Code} {D : va_G} {cy : Nat → ClassId} (ad : Nat → Nat) (A : Nat → Prop) {S : MS} {r : Int32} {out : ((Nat × Int32 × Int32 × Int32) ⊕ Int32)} {ls : Array Slot} {x0 : Nat} {x1 : Int32} {x2 : Int32} {x3 : Int32} (C0 : CX p s m args meth c RX10 cX10_valueAt 5 D cy) (M : MW D cy ad A S s.heap) (hr : meth.sig.returnType = some .int) (hF : bX10_valueAt_76 S x0 x1 x2 x3 = some out) (hl : lv_has ls 5 [(0, .ref (ad x0)), (1, .int x1), (2, .int x2), (3, .int x3)]) (Kr : ∀ r9, out = .inr r9 → r9 = r) (Kh0 : ∀ (y0 : Nat) (y1 : Int32) (y2 : Int32) (y3 : Int32), out = .inl (y0, y1, y2, y3) → ∀ (ls1 : Array Slot), lv_has ls1 5 [(0, .ref (ad y0)), (1, .int y1), (2, .int y2), (3, .int y3)] → W p l e rmX10_valueAt s m args below meth c s.heap [] 0 0 (MQ below (QcS (some (.int r))) args s 0 0 (fun _ => False)) (F0 m 5 ls1 [])) : W p l e rmX10_valueAt s m args below meth c s.heap [] 0 0 (MQ below (QcS (some (.int r))) args s 0 0 (fun _ => False)) (F0 m 76 ls []) := by
  unfold bX10_valueAt_76 at hF
  obtain ⟨hx, hb, -, hown, -, hts, -⟩ := id C0
  refine lv_iload_n hx hb dX10_valueAt_76 rfl (lv_at hl 2 rfl) ?_
  exact wX10_valueAt_77 ad A C0 M hr hF (lv_sub hl [0, 1, 3] rfl) Kr Kh0
set_option maxHeartbeats 4000000 in
set_option maxRecDepth 100000 in
theorem wX10_valueAt_38 {p : Program} {l : Launch} {e : Env} {s : State} {m : MethodId} {args : Array Value} {below : List Frame} {meth : Method} {c : Code} {D : va_G} {cy : Nat → ClassId} (ad : Nat → Nat) (A : Nat → Prop) {S : MS} {r : Int32} {out : ((Nat × Int32 × Int32 × Int32) ⊕ Int32)} {ls : Array Slot} {x0 : Nat} {x1 : Int32} {x2 : Int32} {x3 : Int32} {z0 : Int32} (C0 : CX p s m args meth c RX10 cX10_valueAt 5 D cy) (M : MW D cy ad A S s.heap) (hr : meth.sig.returnType = some .int) (hF : bX10_valueAt_38 S x0 x1 x2 x3 z0 = some out) (hl : lv_has ls 5 [(0, .ref (ad x0)), (1, .int x1), (2, .int x2), (3, .int x3)]) (Kr : ∀ r9, out = .inr r9 → r9 = r) (Kh0 : ∀ (y0 : Nat) (y1 : Int32) (y2 : Int32) (y3 : Int32), out = .inl (y0, y1, y2, y3) → ∀ (ls1 : Array Slot), lv_has ls1 5 [(0, .ref (ad y0)), (1, .int y1), (2, .int y2), (3, .int y3)] → W p l e rmX10_valueAt s m args below meth c s.heap [] 0 0 (MQ below (QcS (some (.int r))) args s 0 0 (fun _ => False)) (F0 m 5 ls1 [])) : W p l e rmX10_valueAt s m args below meth c s.heap [] 0 0 (MQ below (QcS (some (.int r))) args s 0 0 (fun _ => False)) (F0 m 38 ls [.int z0]) := by
  unfold bX10_valueAt_38 at hF
  obtain ⟨hx, hb, -, hown, -, hts, -⟩ := id C0
  refine lv_istore (lv' := [(4, .int z0), (0, .ref (ad x0)), (1, .int x1), (2, .int x2), (3, .int x3)]) hx hb dX10_valueAt_38 hl (by decide) rfl (fun ls hl => ?_)
  refine lv_iload hx hb dX10_valueAt_40 (lv_at hl 0 rfl) ?_
  refine lv_if_eq (tgt := 76) hx hb dX10_valueAt_42 (by decide) (fun hc => ?_) (fun hc => ?_)
  · have hF := oi_t hc hF
    exact wX10_valueAt_76 ad A C0 M hr hF (lv_sub hl [1, 2, 3, 4] rfl) Kr Kh0
  · have hF := oi_f hc hF
    refine lv_iload_n hx hb dX10_valueAt_45 rfl (lv_at hl 3 rfl) ?_
    refine lv_if_lt (tgt := 72) hx hb dX10_valueAt_46 (by decide) (fun hc => ?_) (fun hc => ?_)
    · have hF := oi_t hc hF
      exact wX10_valueAt_72 ad A C0 M hr hF (lv_sub hl [1, 2, 4] rfl) Kr Kh0
    · have hF := oi_f hc hF
      refine lv_aload_n hx hb dX10_valueAt_49 rfl (lv_at hl 1 rfl) ?_
      obtain ⟨v50, hv, hF⟩ := ob hF
      refine k_getP C0 M hv fl_X10_49 dX10_valueAt_50 ?_
      refine lv_iload_n hx hb dX10_valueAt_53 rfl (lv_at hl 4 rfl) ?_
      obtain ⟨v54, hv, hF⟩ := ob hF
      refine k_ld C0 M hv dX10_valueAt_54 ?_
      refine lv_iload_n hx hb dX10_valueAt_55 rfl (lv_at hl 2 rfl) ?_
      obtain ⟨v56, hcl, hF⟩ := ob hF
      refine go_SI (r_S (rest := []) (As := [.int v54, .int x1]) C0 cb_X10_248 (tX10_far l D cy ad hcl) (pre_S C0) hl dX10_valueAt_56 rfl (Nat.le_of_ble_eq_true rfl) ⟨rfl, rfl⟩ ⟨Nat.le_of_ble_eq_true rfl, Nat.le_of_ble_eq_true rfl⟩ ⟨Nat.le_of_ble_eq_true rfl, Nat.le_of_ble_eq_true rfl⟩ rfl) ?_
      refine lv_aload_n hx hb dX10_valueAt_59 rfl (lv_at hl 1 rfl) ?_
      obtain ⟨v60, hv, hF⟩ := ob hF
      refine k_getP C0 M hv fl_X10_49 dX10_valueAt_60 ?_
      refine lv_iload_n hx hb dX10_valueAt_63 rfl (lv_at hl 3 rfl) ?_
      obtain ⟨v64, hv, hF⟩ := ob hF
      refine k_ld C0 M hv dX10_valueAt_64 ?_
      refine lv_iload_n hx hb dX10_valueAt_65 rfl (lv_at hl 2 rfl) ?_
      obtain ⟨v66, hcl, hF⟩ := ob hF
      refine go_SI (r_S (rest := [.int v56]) (As := [.int v64, .int x1]) C0 cb_X10_248 (tX10_far l D cy ad hcl) (pre_S C0) hl dX10_valueAt_66 rfl (Nat.le_of_ble_eq_true rfl) ⟨rfl, rfl⟩ ⟨Nat.le_of_ble_eq_true rfl, Nat.le_of_ble_eq_true rfl⟩ ⟨Nat.le_of_ble_eq_true rfl, Nat.le_of_ble_eq_true rfl⟩ rfl) ?_
      refine lv_icmp_ge (tgt := 76) hx hb dX10_valueAt_69 (by decide) (fun hc => ?_) (fun hc => ?_)
      · have hF := oi_t hc hF
        exact wX10_valueAt_76 ad A C0 M hr hF (lv_sub hl [1, 2, 3, 4] rfl) Kr Kh0
      · have hF := oi_f hc hF
        exact wX10_valueAt_72 ad A C0 M hr hF (lv_sub hl [1, 2, 4] rfl) Kr Kh0
set_option maxHeartbeats 4000000 in
set_option maxRecDepth 100000 in
theorem wX10_valueAt_37 {p : Program} {l : Launch} {e : Env} {s : State} {m : MethodId} {args : Array Value} {below : List Frame} {meth : Method} {c : Code} {D : va_G} {cy : Nat → ClassId} (ad : Nat → Nat) (A : Nat → Prop) {S : MS} {r : Int32} {out : ((Nat × Int32 × Int32 × Int32) ⊕ Int32)} {ls : Array Slot} {x0 : Nat} {x1 : Int32} {x2 : Int32} {x3 : Int32} (C0 : CX p s m args meth c RX10 cX10_valueAt 5 D cy) (M : MW D cy ad A S s.heap) (hr : meth.sig.returnType = some .int) (hF : bX10_valueAt_37 S x0 x1 x2 x3 = some out) (hl : lv_has ls 5 [(0, .ref (ad x0)), (1, .int x1), (2, .int x2), (3, .int x3)]) (Kr : ∀ r9, out = .inr r9 → r9 = r) (Kh0 : ∀ (y0 : Nat) (y1 : Int32) (y2 : Int32) (y3 : Int32), out = .inl (y0, y1, y2, y3) → ∀ (ls1 : Array Slot), lv_has ls1 5 [(0, .ref (ad y0)), (1, .int y1), (2, .int y2), (3, .int y3)] → W p l e rmX10_valueAt s m args below meth c s.heap [] 0 0 (MQ below (QcS (some (.int r))) args s 0 0 (fun _ => False)) (F0 m 5 ls1 [])) : W p l e rmX10_valueAt s m args below meth c s.heap [] 0 0 (MQ below (QcS (some (.int r))) args s 0 0 (fun _ => False)) (F0 m 37 ls []) := by
  unfold bX10_valueAt_37 at hF
  obtain ⟨hx, hb, -, hown, -, hts, -⟩ := id C0
  refine lv_iconst (v := (0 : Int32)) hx hb dX10_valueAt_37 (by decide) ?_
  exact wX10_valueAt_38 ad A C0 M hr hF (lv_sub hl [0, 1, 2, 3] rfl) Kr Kh0
set_option maxHeartbeats 4000000 in
set_option maxRecDepth 100000 in
theorem wX10_valueAt_99 {p : Program} {l : Launch} {e : Env} {s : State} {m : MethodId} {args : Array Value} {below : List Frame} {meth : Method} {c : Code} {D : va_G} {cy : Nat → ClassId} (ad : Nat → Nat) (A : Nat → Prop) {S : MS} {r : Int32} {out : ((Nat × Int32 × Int32 × Int32) ⊕ Int32)} {ls : Array Slot} {z0 : Int32} (C0 : CX p s m args meth c RX10 cX10_valueAt 5 D cy) (M : MW D cy ad A S s.heap) (hr : meth.sig.returnType = some .int) (hF : bX10_valueAt_99 S z0 = some out) (hl : lv_has ls 5 []) (Kr : ∀ r9, out = .inr r9 → r9 = r) (Kh0 : ∀ (y0 : Nat) (y1 : Int32) (y2 : Int32) (y3 : Int32), out = .inl (y0, y1, y2, y3) → ∀ (ls1 : Array Slot), lv_has ls1 5 [(0, .ref (ad y0)), (1, .int y1), (2, .int y2), (3, .int y3)] → W p l e rmX10_valueAt s m args below meth c s.heap [] 0 0 (MQ below (QcS (some (.int r))) args s 0 0 (fun _ => False)) (F0 m 5 ls1 [])) : W p l e rmX10_valueAt s m args below meth c s.heap [] 0 0 (MQ below (QcS (some (.int r))) args s 0 0 (fun _ => False)) (F0 m 99 ls [.int z0]) := by
  unfold bX10_valueAt_99 at hF
  obtain ⟨hx, hb, -, hown, -, hts, -⟩ := id C0
  obtain rfl := (Kr _ (Option.some.inj hF).symm)
  exact rt_SI C0 hr dX10_valueAt_99
set_option maxHeartbeats 4000000 in
set_option maxRecDepth 100000 in
theorem wX10_valueAt_5 {p : Program} {l : Launch} {e : Env} {s : State} {m : MethodId} {args : Array Value} {below : List Frame} {meth : Method} {c : Code} {D : va_G} {cy : Nat → ClassId} (ad : Nat → Nat) (A : Nat → Prop) {S : MS} {r : Int32} {out : ((Nat × Int32 × Int32 × Int32) ⊕ Int32)} {ls : Array Slot} {x0 : Nat} {x1 : Int32} {x2 : Int32} {x3 : Int32} (C0 : CX p s m args meth c RX10 cX10_valueAt 5 D cy) (M : MW D cy ad A S s.heap) (hr : meth.sig.returnType = some .int) (hF : bX10_valueAt_5 S x0 x1 x2 x3 = some out) (hl : lv_has ls 5 [(0, .ref (ad x0)), (1, .int x1), (2, .int x2), (3, .int x3)]) (Kr : ∀ r9, out = .inr r9 → r9 = r) (Kh0 : ∀ (y0 : Nat) (y1 : Int32) (y2 : Int32) (y3 : Int32), out = .inl (y0, y1, y2, y3) → ∀ (ls1 : Array Slot), lv_has ls1 5 [(0, .ref (ad y0)), (1, .int y1), (2, .int y2), (3, .int y3)] → W p l e rmX10_valueAt s m args below meth c s.heap [] 0 0 (MQ below (QcS (some (.int r))) args s 0 0 (fun _ => False)) (F0 m 5 ls1 [])) : W p l e rmX10_valueAt s m args below meth c s.heap [] 0 0 (MQ below (QcS (some (.int r))) args s 0 0 (fun _ => False)) (F0 m 5 ls []) := by
  unfold bX10_valueAt_5 at hF
  obtain ⟨hx, hb, -, hown, -, hts, -⟩ := id C0
  refine lv_iload_n hx hb dX10_valueAt_5 rfl (lv_at hl 3 rfl) ?_
  refine lv_aload_n hx hb dX10_valueAt_6 rfl (lv_at hl 0 rfl) ?_
  obtain ⟨v7, hv, hF⟩ := ob hF
  refine k_getI C0 M hv fl_X10_153 dX10_valueAt_7 ?_
  refine lv_icmp_ge (tgt := 84) hx hb dX10_valueAt_10 (by decide) (fun hc => ?_) (fun hc => ?_)
  · have hF := oi_t hc hF
    refine lv_iload_n hx hb dX10_valueAt_84 rfl (lv_at hl 2 rfl) ?_
    refine lv_if_ge (tgt := 93) hx hb dX10_valueAt_85 (by decide) (fun hc => ?_) (fun hc => ?_)
    · have hF := oi_t hc hF
      refine lv_aload_n hx hb dX10_valueAt_93 rfl (lv_at hl 0 rfl) ?_
      obtain ⟨v94, hv, hF⟩ := ob hF
      refine k_getP C0 M hv fl_X10_52 dX10_valueAt_94 ?_
      refine lv_iload_n hx hb dX10_valueAt_97 rfl (lv_at hl 2 rfl) ?_
      obtain ⟨v98, hv, hF⟩ := ob hF
      refine k_ld C0 M hv dX10_valueAt_98 ?_
      exact wX10_valueAt_99 ad A C0 M hr hF (lv_sub hl [] rfl) Kr Kh0
    · have hF := oi_f hc hF
      refine lv_bipush (v := (-9 : Int32)) hx hb dX10_valueAt_88 (by decide) ?_
      refine lv_goto (tgt := 99) hx hb dX10_valueAt_90 (by decide) ?_
      exact wX10_valueAt_99 ad A C0 M hr hF (lv_sub hl [] rfl) Kr Kh0
  · have hF := oi_f hc hF
    refine lv_aload_n hx hb dX10_valueAt_13 rfl (lv_at hl 0 rfl) ?_
    obtain ⟨v14, hv, hF⟩ := ob hF
    refine k_getP C0 M hv fl_X10_46 dX10_valueAt_14 ?_
    refine lv_iload_n hx hb dX10_valueAt_17 rfl (lv_at hl 3 rfl) ?_
    obtain ⟨v18, hv, hF⟩ := ob hF
    refine k_ld C0 M hv dX10_valueAt_18 ?_
    refine lv_if_lt (tgt := 37) hx hb dX10_valueAt_19 (by decide) (fun hc => ?_) (fun hc => ?_)
    · have hF := oi_t hc hF
      exact wX10_valueAt_37 ad A C0 M hr hF (lv_sub hl [0, 1, 2, 3] rfl) Kr Kh0
    · have hF := oi_f hc hF
      refine lv_aload_n hx hb dX10_valueAt_22 rfl (lv_at hl 0 rfl) ?_
      obtain ⟨v23, hv, hF⟩ := ob hF
      refine k_getI C0 M hv fl_X10_263 dX10_valueAt_23 ?_
      refine lv_iload_n hx hb dX10_valueAt_26 rfl (lv_at hl 3 rfl) ?_
      obtain ⟨v27, hcl, hF⟩ := ob hF
      refine go_SI (r_S (rest := []) (As := [.int v23, .int x3]) C0 cb_X10_245 (tX10_hasBit l D cy ad hcl) (pre_S C0) hl dX10_valueAt_27 rfl (Nat.le_of_ble_eq_true rfl) ⟨rfl, rfl⟩ ⟨Nat.le_of_ble_eq_true rfl, Nat.le_of_ble_eq_true rfl⟩ ⟨Nat.le_of_ble_eq_true rfl, Nat.le_of_ble_eq_true rfl⟩ rfl) ?_
      refine lv_if_ne (tgt := 37) hx hb dX10_valueAt_30 (by decide) (fun hc => ?_) (fun hc => ?_)
      · have hF := oi_f hc hF
        exact wX10_valueAt_37 ad A C0 M hr hF (lv_sub hl [0, 1, 2, 3] rfl) Kr Kh0
      · have hF := oi_t hc hF
        refine lv_iconst (v := (1 : Int32)) hx hb dX10_valueAt_33 (by decide) ?_
        refine lv_goto (tgt := 38) hx hb dX10_valueAt_34 (by decide) ?_
        exact wX10_valueAt_38 ad A C0 M hr hF (lv_sub hl [0, 1, 2, 3] rfl) Kr Kh0
set_option maxHeartbeats 4000000 in
set_option maxRecDepth 100000 in
theorem tX10_valueAt (l : Launch) (D : va_G) (cy : Nat → ClassId) (ad : Nat → Nat) (A : Nat → Prop) {S : MS} {a0 : Nat} {a1 : Int32} {r : Int32} (h : fX10_valueAt S a0 a1 = some r) : Met l yX10_valueAt [Cond.code yX10_valueAt cX10_valueAt 5 (some .int)] rmX10_valueAt (PcR D cy ad A S [.ref (ad a0), .int a1]) (QcS (some (.int r))) 0 0 (fun _ => False) := by
  refine met_R (by decide +kernel) cw_X10_valueAt (Nat.le_of_ble_eq_true rfl) ?_
  intro p e s m args below meth c ls C0 M hr hl
  have hl : lv_has ls 5 [(0, .ref (ad a0)), (1, .int a1)] := hl
  have key := lim_walk (step := sX10_valueAt S) (fun (q : (Nat × Int32 × Int32 × Int32)) (r9 : Int32) => ∀ (r : Int32), r9 = r → ((∀ (y0 : Nat) (y1 : Int32) (y2 : Int32) (y3 : Int32), q = (y0, y1, y2, y3) → ∀ (ls1 : Array Slot), lv_has ls1 5 [(0, .ref (ad y0)), (1, .int y1), (2, .int y2), (3, .int y3)] → W p l e rmX10_valueAt s m args below meth c s.heap [] 0 0 (MQ below (QcS (some (.int r))) args s 0 0 (fun _ => False)) (F0 m 5 ls1 [])))) ?_
  · unfold fX10_valueAt at h
    cases hs0 : bX10_valueAt_0 S a0 a1 with
    | none => rw [hs0] at h; cases h
    | some out =>
      rw [hs0] at h
      refine wX10_valueAt_0 ad A C0 M hr hs0 hl (fun r9 hr9 => ?_) ?_
      · subst hr9; exact Option.some.inj h
      · intro y0 y1 y2 y3 hq; subst hq; exact (key _ _ h _ rfl) _ _ _ _ rfl
  · intro q r9 out hst hre hin9
    intro r er; subst er
    refine ?_
    · intro y0 y1 y2 y3 hq ls1 hl
      subst hq
      exact wX10_valueAt_5 ad A C0 M hr hst hl hre (fun k0 k1 k2 k3 hk => (hin9 _ hk _ rfl) _ _ _ _ rfl)
set_option maxHeartbeats 4000000 in
set_option maxRecDepth 100000 in
theorem wX10_layChart_0 {p : Program} {l : Launch} {e : Env} {s : State} {m : MethodId} {args : Array Value} {below : List Frame} {meth : Method} {c : Code} {D : va_G} {cy : Nat → ClassId} (ad : Nat → Nat) (A : Nat → Prop) {S : MS} {S' : MS} {H : Heap} {locs : List Loc} {n0 : Nat} {out : (((Nat × Int32 × MS) ⊕ ((Nat × Int32 × MS) ⊕ (Nat × Int32 × MS))) ⊕ MS)} {ls : Array Slot} {x0 : Nat} (C0 : CX p s m args meth c RX10 cX10_layChart 3 D cy) (M : ST D cy ad A s.heap (ZN n0 s.heap.size) S H locs) (hr : meth.sig.returnType = none) (hF : bX10_layChart_0 S x0 = some out) (hl : lv_has ls 3 [(0, .ref (ad x0))]) (Kr : ∀ r9, out = .inr r9 → r9 = S') (Kh0 : ∀ (y0 : Nat) (y1 : Int32) (S2 : MS), out = .inl (.inl (y0, y1, S2)) → ∀ (H1 : Heap) (locs1 : List Loc) (ls1 : Array Slot), ST D cy ad A s.heap (ZN n0 s.heap.size) S2 H1 locs1 → lv_has ls1 3 [(0, .ref (ad y0)), (1, .int y1)] → W p l e rmX10_layChart s m args below meth c H1 locs1 0 0 (MQ below (QcM D cy ad A n0 S' (none)) args s 0 0 A) (F0 m 20 ls1 [])) (Kh1 : ∀ (y0 : Nat) (y1 : Int32) (S2 : MS), out = .inl (.inr (.inl (y0, y1, S2))) → ∀ (H1 : Heap) (locs1 : List Loc) (ls1 : Array Slot), ST D cy ad A s.heap (ZN n0 s.heap.size) S2 H1 locs1 → lv_has ls1 3 [(0, .ref (ad y0)), (1, .int y1)] → W p l e rmX10_layChart s m args below meth c H1 locs1 0 0 (MQ below (QcM D cy ad A n0 S' (none)) args s 0 0 A) (F0 m 119 ls1 [])) (Kh2 : ∀ (y0 : Nat) (y1 : Int32) (S2 : MS), out = .inl (.inr (.inr (y0, y1, S2))) → ∀ (H1 : Heap) (locs1 : List Loc) (ls1 : Array Slot), ST D cy ad A s.heap (ZN n0 s.heap.size) S2 H1 locs1 → lv_has ls1 3 [(0, .ref (ad y0)), (1, .int y1)] → W p l e rmX10_layChart s m args below meth c H1 locs1 0 0 (MQ below (QcM D cy ad A n0 S' (none)) args s 0 0 A) (F0 m 174 ls1 [])) : W p l e rmX10_layChart s m args below meth c H locs 0 0 (MQ below (QcM D cy ad A n0 S' (none)) args s 0 0 A) (F0 m 0 ls []) := by
  unfold bX10_layChart_0 at hF
  obtain ⟨hx, hb, -, hown, -, hts, -⟩ := id C0
  refine lv_aload_n hx hb dX10_layChart_0 rfl (lv_at hl 0 rfl) ?_
  obtain ⟨v1, hv, hF⟩ := ob hF
  refine k_getI C0 M.1 hv fl_X10_174 dX10_layChart_1 ?_
  refine lv_if_eq (tgt := 8) hx hb dX10_layChart_4 (by decide) (fun hc => ?_) (fun hc => ?_)
  · have hF := oi_t hc hF
    refine lv_aload_n hx hb dX10_layChart_8 rfl (lv_at hl 0 rfl) ?_
    refine lv_iconst (v := (1 : Int32)) hx hb dX10_layChart_9 (by decide) ?_
    have hz : o_zb (1 : Int32) = some (1 : Int32) := rfl
    obtain ⟨S10, hv, hF⟩ := ob hF
    refine k_sZ C0 M hz hv fl_X10_174 dX10_layChart_10 (fun H locs M => ?_)
    refine lv_aload_n hx hb dX10_layChart_13 rfl (lv_at hl 0 rfl) ?_
    refine lv_iconst (v := (0 : Int32)) hx hb dX10_layChart_14 (by decide) ?_
    obtain ⟨S15, hv, hF⟩ := ob hF
    refine k_sI C0 M hv fl_X10_272 dX10_layChart_15 (fun H locs M => ?_)
    refine lv_iconst (v := (0 : Int32)) hx hb dX10_layChart_18 (by decide) ?_
    refine lv_istore_n (lv' := [(1, .int (0 : Int32)), (0, .ref (ad x0))]) hx hb dX10_layChart_19 rfl hl (by decide) rfl (fun ls hl => ?_)
    exact Kh0 _ _ _ (Option.some.inj hF).symm _ _ _ M (lv_sub hl [1, 0] rfl)
  · have hF := oi_f hc hF
    obtain rfl := (Kr _ (Option.some.inj hF).symm)
    exact rt_MV C0 M hr dX10_layChart_7
set_option maxHeartbeats 4000000 in
set_option maxRecDepth 100000 in
theorem wX10_layChart_107 {p : Program} {l : Launch} {e : Env} {s : State} {m : MethodId} {args : Array Value} {below : List Frame} {meth : Method} {c : Code} {D : va_G} {cy : Nat → ClassId} (ad : Nat → Nat) (A : Nat → Prop) {S : MS} {S' : MS} {H : Heap} {locs : List Loc} {n0 : Nat} {out : (((Nat × Int32 × MS) ⊕ ((Nat × Int32 × MS) ⊕ (Nat × Int32 × MS))) ⊕ MS)} {ls : Array Slot} {x0 : Nat} {x1 : Int32} {z0 : Nat} {z1 : Int32} {z2 : Int32} (C0 : CX p s m args meth c RX10 cX10_layChart 3 D cy) (M : ST D cy ad A s.heap (ZN n0 s.heap.size) S H locs) (hr : meth.sig.returnType = none) (hF : bX10_layChart_107 S x0 x1 z0 z1 z2 = some out) (hl : lv_has ls 3 [(0, .ref (ad x0)), (1, .int x1)]) (Kr : ∀ r9, out = .inr r9 → r9 = S') (Kh0 : ∀ (y0 : Nat) (y1 : Int32) (S2 : MS), out = .inl (.inl (y0, y1, S2)) → ∀ (H1 : Heap) (locs1 : List Loc) (ls1 : Array Slot), ST D cy ad A s.heap (ZN n0 s.heap.size) S2 H1 locs1 → lv_has ls1 3 [(0, .ref (ad y0)), (1, .int y1)] → W p l e rmX10_layChart s m args below meth c H1 locs1 0 0 (MQ below (QcM D cy ad A n0 S' (none)) args s 0 0 A) (F0 m 20 ls1 [])) (Kh1 : ∀ (y0 : Nat) (y1 : Int32) (S2 : MS), out = .inl (.inr (.inl (y0, y1, S2))) → ∀ (H1 : Heap) (locs1 : List Loc) (ls1 : Array Slot), ST D cy ad A s.heap (ZN n0 s.heap.size) S2 H1 locs1 → lv_has ls1 3 [(0, .ref (ad y0)), (1, .int y1)] → W p l e rmX10_layChart s m args below meth c H1 locs1 0 0 (MQ below (QcM D cy ad A n0 S' (none)) args s 0 0 A) (F0 m 119 ls1 [])) (Kh2 : ∀ (y0 : Nat) (y1 : Int32) (S2 : MS), out = .inl (.inr (.inr (y0, y1, S2))) → ∀ (H1 : Heap) (locs1 : List Loc) (ls1 : Array Slot), ST D cy ad A s.heap (ZN n0 s.heap.size) S2 H1 locs1 → lv_has ls1 3 [(0, .ref (ad y0)), (1, .int y1)] → W p l e rmX10_layChart s m args below meth c H1 locs1 0 0 (MQ below (QcM D cy ad A n0 S' (none)) args s 0 0 A) (F0 m 174 ls1 [])) : W p l e rmX10_layChart s m args below meth c H locs 0 0 (MQ below (QcM D cy ad A n0 S' (none)) args s 0 0 A) (F0 m 107 ls [.int z2, .int z1, .ref (ad z0)]) := by
  unfold bX10_layChart_107 at hF
  obtain ⟨hx, hb, -, hown, -, hts, -⟩ := id C0
  refine lv_iadd hx hb dX10_layChart_107 ?_
  obtain ⟨S108, hv, hF⟩ := ob hF
  refine k_sI C0 M hv fl_X10_272 dX10_layChart_108 (fun H locs M => ?_)
  obtain ⟨v111, hv, hF⟩ := ob hF
  refine lv_iinc (v := v111) (lv' := [(1, .int v111), (0, .ref (ad x0))]) hx hb dX10_layChart_111 hl (k := 1) rfl (by rw [← vtI hv]; rfl) (by decide) rfl (fun ls hl => ?_)
  refine lv_goto (tgt := 20) hx hb dX10_layChart_114 (by decide) ?_
  exact Kh0 _ _ _ (Option.some.inj hF).symm _ _ _ M (lv_sub hl [1, 0] rfl)
set_option maxHeartbeats 4000000 in
set_option maxRecDepth 100000 in
theorem wX10_layChart_87 {p : Program} {l : Launch} {e : Env} {s : State} {m : MethodId} {args : Array Value} {below : List Frame} {meth : Method} {c : Code} {D : va_G} {cy : Nat → ClassId} (ad : Nat → Nat) (A : Nat → Prop) {S : MS} {S' : MS} {H : Heap} {locs : List Loc} {n0 : Nat} {out : (((Nat × Int32 × MS) ⊕ ((Nat × Int32 × MS) ⊕ (Nat × Int32 × MS))) ⊕ MS)} {ls : Array Slot} {x0 : Nat} {x1 : Int32} {z0 : Nat} {z1 : Int32} {z2 : Int32} (C0 : CX p s m args meth c RX10 cX10_layChart 3 D cy) (M : ST D cy ad A s.heap (ZN n0 s.heap.size) S H locs) (hr : meth.sig.returnType = none) (hF : bX10_layChart_87 S x0 x1 z0 z1 z2 = some out) (hl : lv_has ls 3 [(0, .ref (ad x0)), (1, .int x1)]) (Kr : ∀ r9, out = .inr r9 → r9 = S') (Kh0 : ∀ (y0 : Nat) (y1 : Int32) (S2 : MS), out = .inl (.inl (y0, y1, S2)) → ∀ (H1 : Heap) (locs1 : List Loc) (ls1 : Array Slot), ST D cy ad A s.heap (ZN n0 s.heap.size) S2 H1 locs1 → lv_has ls1 3 [(0, .ref (ad y0)), (1, .int y1)] → W p l e rmX10_layChart s m args below meth c H1 locs1 0 0 (MQ below (QcM D cy ad A n0 S' (none)) args s 0 0 A) (F0 m 20 ls1 [])) (Kh1 : ∀ (y0 : Nat) (y1 : Int32) (S2 : MS), out = .inl (.inr (.inl (y0, y1, S2))) → ∀ (H1 : Heap) (locs1 : List Loc) (ls1 : Array Slot), ST D cy ad A s.heap (ZN n0 s.heap.size) S2 H1 locs1 → lv_has ls1 3 [(0, .ref (ad y0)), (1, .int y1)] → W p l e rmX10_layChart s m args below meth c H1 locs1 0 0 (MQ below (QcM D cy ad A n0 S' (none)) args s 0 0 A) (F0 m 119 ls1 [])) (Kh2 : ∀ (y0 : Nat) (y1 : Int32) (S2 : MS), out = .inl (.inr (.inr (y0, y1, S2))) → ∀ (H1 : Heap) (locs1 : List Loc) (ls1 : Array Slot), ST D cy ad A s.heap (ZN n0 s.heap.size) S2 H1 locs1 → lv_has ls1 3 [(0, .ref (ad y0)), (1, .int y1)] → W p l e rmX10_layChart s m args below meth c H1 locs1 0 0 (MQ below (QcM D cy ad A n0 S' (none)) args s 0 0 A) (F0 m 174 ls1 [])) : W p l e rmX10_layChart s m args below meth c H locs 0 0 (MQ below (QcM D cy ad A n0 S' (none)) args s 0 0 A) (F0 m 87 ls [.int z2, .int z1, .ref (ad z0)]) := by
  unfold bX10_layChart_87 at hF
  obtain ⟨hx, hb, -, hown, -, hts, -⟩ := id C0
  obtain ⟨S87, hv, hF⟩ := ob hF
  refine k_st C0 M hv dX10_layChart_87 (fun H locs M => ?_)
  refine lv_aload_n hx hb dX10_layChart_88 rfl (lv_at hl 0 rfl) ?_
  refine lv_dup hx hb dX10_layChart_89 rfl ?_
  obtain ⟨v90, hv, hF⟩ := ob hF
  refine k_getI C0 M.1 hv fl_X10_272 dX10_layChart_90 ?_
  refine lv_aload_n hx hb dX10_layChart_93 rfl (lv_at hl 0 rfl) ?_
  obtain ⟨v94, hv, hF⟩ := ob hF
  refine k_getP C0 M.1 hv fl_X10_46 dX10_layChart_94 ?_
  refine lv_iload_n hx hb dX10_layChart_97 rfl (lv_at hl 1 rfl) ?_
  obtain ⟨v98, hv, hF⟩ := ob hF
  refine k_ld C0 M.1 hv dX10_layChart_98 ?_
  refine lv_if_lt (tgt := 106) hx hb dX10_layChart_99 (by decide) (fun hc => ?_) (fun hc => ?_)
  · have hF := oi_t hc hF
    refine lv_iconst (v := (0 : Int32)) hx hb dX10_layChart_106 (by decide) ?_
    exact wX10_layChart_107 ad A C0 M hr hF (lv_sub hl [0, 1] rfl) Kr Kh0 Kh1 Kh2
  · have hF := oi_f hc hF
    refine lv_iconst (v := (1 : Int32)) hx hb dX10_layChart_102 (by decide) ?_
    refine lv_goto (tgt := 107) hx hb dX10_layChart_103 (by decide) ?_
    exact wX10_layChart_107 ad A C0 M hr hF (lv_sub hl [0, 1] rfl) Kr Kh0 Kh1 Kh2
set_option maxHeartbeats 4000000 in
set_option maxRecDepth 100000 in
theorem wX10_layChart_85 {p : Program} {l : Launch} {e : Env} {s : State} {m : MethodId} {args : Array Value} {below : List Frame} {meth : Method} {c : Code} {D : va_G} {cy : Nat → ClassId} (ad : Nat → Nat) (A : Nat → Prop) {S : MS} {S' : MS} {H : Heap} {locs : List Loc} {n0 : Nat} {out : (((Nat × Int32 × MS) ⊕ ((Nat × Int32 × MS) ⊕ (Nat × Int32 × MS))) ⊕ MS)} {ls : Array Slot} {x0 : Nat} {x1 : Int32} {z0 : Nat} {z1 : Int32} (C0 : CX p s m args meth c RX10 cX10_layChart 3 D cy) (M : ST D cy ad A s.heap (ZN n0 s.heap.size) S H locs) (hr : meth.sig.returnType = none) (hF : bX10_layChart_85 S x0 x1 z0 z1 = some out) (hl : lv_has ls 3 [(0, .ref (ad x0)), (1, .int x1)]) (Kr : ∀ r9, out = .inr r9 → r9 = S') (Kh0 : ∀ (y0 : Nat) (y1 : Int32) (S2 : MS), out = .inl (.inl (y0, y1, S2)) → ∀ (H1 : Heap) (locs1 : List Loc) (ls1 : Array Slot), ST D cy ad A s.heap (ZN n0 s.heap.size) S2 H1 locs1 → lv_has ls1 3 [(0, .ref (ad y0)), (1, .int y1)] → W p l e rmX10_layChart s m args below meth c H1 locs1 0 0 (MQ below (QcM D cy ad A n0 S' (none)) args s 0 0 A) (F0 m 20 ls1 [])) (Kh1 : ∀ (y0 : Nat) (y1 : Int32) (S2 : MS), out = .inl (.inr (.inl (y0, y1, S2))) → ∀ (H1 : Heap) (locs1 : List Loc) (ls1 : Array Slot), ST D cy ad A s.heap (ZN n0 s.heap.size) S2 H1 locs1 → lv_has ls1 3 [(0, .ref (ad y0)), (1, .int y1)] → W p l e rmX10_layChart s m args below meth c H1 locs1 0 0 (MQ below (QcM D cy ad A n0 S' (none)) args s 0 0 A) (F0 m 119 ls1 [])) (Kh2 : ∀ (y0 : Nat) (y1 : Int32) (S2 : MS), out = .inl (.inr (.inr (y0, y1, S2))) → ∀ (H1 : Heap) (locs1 : List Loc) (ls1 : Array Slot), ST D cy ad A s.heap (ZN n0 s.heap.size) S2 H1 locs1 → lv_has ls1 3 [(0, .ref (ad y0)), (1, .int y1)] → W p l e rmX10_layChart s m args below meth c H1 locs1 0 0 (MQ below (QcM D cy ad A n0 S' (none)) args s 0 0 A) (F0 m 174 ls1 [])) : W p l e rmX10_layChart s m args below meth c H locs 0 0 (MQ below (QcM D cy ad A n0 S' (none)) args s 0 0 A) (F0 m 85 ls [.int z1, .ref (ad z0)]) := by
  unfold bX10_layChart_85 at hF
  obtain ⟨hx, hb, -, hown, -, hts, -⟩ := id C0
  refine lv_bipush (v := (-9 : Int32)) hx hb dX10_layChart_85 (by decide) ?_
  exact wX10_layChart_87 ad A C0 M hr hF (lv_sub hl [0, 1] rfl) Kr Kh0 Kh1 Kh2
set_option maxHeartbeats 4000000 in
set_option maxRecDepth 100000 in
theorem wX10_layChart_62 {p : Program} {l : Launch} {e : Env} {s : State} {m : MethodId} {args : Array Value} {below : List Frame} {meth : Method} {c : Code} {D : va_G} {cy : Nat → ClassId} (ad : Nat → Nat) (A : Nat → Prop) {S : MS} {S' : MS} {H : Heap} {locs : List Loc} {n0 : Nat} {out : (((Nat × Int32 × MS) ⊕ ((Nat × Int32 × MS) ⊕ (Nat × Int32 × MS))) ⊕ MS)} {ls : Array Slot} {x0 : Nat} {x1 : Int32} {z0 : Int32} (C0 : CX p s m args meth c RX10 cX10_layChart 3 D cy) (M : ST D cy ad A s.heap (ZN n0 s.heap.size) S H locs) (hr : meth.sig.returnType = none) (hF : bX10_layChart_62 S x0 x1 z0 = some out) (hl : lv_has ls 3 [(0, .ref (ad x0)), (1, .int x1)]) (Kr : ∀ r9, out = .inr r9 → r9 = S') (Kh0 : ∀ (y0 : Nat) (y1 : Int32) (S2 : MS), out = .inl (.inl (y0, y1, S2)) → ∀ (H1 : Heap) (locs1 : List Loc) (ls1 : Array Slot), ST D cy ad A s.heap (ZN n0 s.heap.size) S2 H1 locs1 → lv_has ls1 3 [(0, .ref (ad y0)), (1, .int y1)] → W p l e rmX10_layChart s m args below meth c H1 locs1 0 0 (MQ below (QcM D cy ad A n0 S' (none)) args s 0 0 A) (F0 m 20 ls1 [])) (Kh1 : ∀ (y0 : Nat) (y1 : Int32) (S2 : MS), out = .inl (.inr (.inl (y0, y1, S2))) → ∀ (H1 : Heap) (locs1 : List Loc) (ls1 : Array Slot), ST D cy ad A s.heap (ZN n0 s.heap.size) S2 H1 locs1 → lv_has ls1 3 [(0, .ref (ad y0)), (1, .int y1)] → W p l e rmX10_layChart s m args below meth c H1 locs1 0 0 (MQ below (QcM D cy ad A n0 S' (none)) args s 0 0 A) (F0 m 119 ls1 [])) (Kh2 : ∀ (y0 : Nat) (y1 : Int32) (S2 : MS), out = .inl (.inr (.inr (y0, y1, S2))) → ∀ (H1 : Heap) (locs1 : List Loc) (ls1 : Array Slot), ST D cy ad A s.heap (ZN n0 s.heap.size) S2 H1 locs1 → lv_has ls1 3 [(0, .ref (ad y0)), (1, .int y1)] → W p l e rmX10_layChart s m args below meth c H1 locs1 0 0 (MQ below (QcM D cy ad A n0 S' (none)) args s 0 0 A) (F0 m 174 ls1 [])) : W p l e rmX10_layChart s m args below meth c H locs 0 0 (MQ below (QcM D cy ad A n0 S' (none)) args s 0 0 A) (F0 m 62 ls [.int z0]) := by
  unfold bX10_layChart_62 at hF
  obtain ⟨hx, hb, -, hown, -, hts, -⟩ := id C0
  refine lv_istore_n (lv' := [(2, .int z0), (0, .ref (ad x0)), (1, .int x1)]) hx hb dX10_layChart_62 rfl hl (by decide) rfl (fun ls hl => ?_)
  refine lv_aload_n hx hb dX10_layChart_63 rfl (lv_at hl 1 rfl) ?_
  obtain ⟨v64, hv, hF⟩ := ob hF
  refine k_getP C0 M.1 hv fl_X10_46 dX10_layChart_64 ?_
  refine lv_iload_n hx hb dX10_layChart_67 rfl (lv_at hl 2 rfl) ?_
  refine lv_iload_n hx hb dX10_layChart_68 rfl (lv_at hl 0 rfl) ?_
  refine lv_if_lt (tgt := 85) hx hb dX10_layChart_69 (by decide) (fun hc => ?_) (fun hc => ?_)
  · have hF := oi_t hc hF
    exact wX10_layChart_85 ad A C0 M hr hF (lv_sub hl [1, 2] rfl) Kr Kh0 Kh1 Kh2
  · have hF := oi_f hc hF
    refine lv_aload_n hx hb dX10_layChart_72 rfl (lv_at hl 1 rfl) ?_
    obtain ⟨v73, hv, hF⟩ := ob hF
    refine k_getP C0 M.1 hv fl_X10_40 dX10_layChart_73 ?_
    refine lv_iload_n hx hb dX10_layChart_76 rfl (lv_at hl 0 rfl) ?_
    obtain ⟨v77, hv, hF⟩ := ob hF
    refine k_ld C0 M.1 hv dX10_layChart_77 ?_
    refine lv_if_le (tgt := 85) hx hb dX10_layChart_78 (by decide) (fun hc => ?_) (fun hc => ?_)
    · have hF := oi_t hc hF
      exact wX10_layChart_85 ad A C0 M hr hF (lv_sub hl [1, 2] rfl) Kr Kh0 Kh1 Kh2
    · have hF := oi_f hc hF
      refine lv_iload_n hx hb dX10_layChart_81 rfl (lv_at hl 0 rfl) ?_
      refine lv_goto (tgt := 87) hx hb dX10_layChart_82 (by decide) ?_
      exact wX10_layChart_87 ad A C0 M hr hF (lv_sub hl [1, 2] rfl) Kr Kh0 Kh1 Kh2
set_option maxHeartbeats 4000000 in
set_option maxRecDepth 100000 in
theorem wX10_layChart_20 {p : Program} {l : Launch} {e : Env} {s : State} {m : MethodId} {args : Array Value} {below : List Frame} {meth : Method} {c : Code} {D : va_G} {cy : Nat → ClassId} (ad : Nat → Nat) (A : Nat → Prop) {S : MS} {S' : MS} {H : Heap} {locs : List Loc} {n0 : Nat} {out : (((Nat × Int32 × MS) ⊕ ((Nat × Int32 × MS) ⊕ (Nat × Int32 × MS))) ⊕ MS)} {ls : Array Slot} {x0 : Nat} {x1 : Int32} (C0 : CX p s m args meth c RX10 cX10_layChart 3 D cy) (M : ST D cy ad A s.heap (ZN n0 s.heap.size) S H locs) (hr : meth.sig.returnType = none) (hF : bX10_layChart_20 S x0 x1 = some out) (hl : lv_has ls 3 [(0, .ref (ad x0)), (1, .int x1)]) (Kr : ∀ r9, out = .inr r9 → r9 = S') (Kh0 : ∀ (y0 : Nat) (y1 : Int32) (S2 : MS), out = .inl (.inl (y0, y1, S2)) → ∀ (H1 : Heap) (locs1 : List Loc) (ls1 : Array Slot), ST D cy ad A s.heap (ZN n0 s.heap.size) S2 H1 locs1 → lv_has ls1 3 [(0, .ref (ad y0)), (1, .int y1)] → W p l e rmX10_layChart s m args below meth c H1 locs1 0 0 (MQ below (QcM D cy ad A n0 S' (none)) args s 0 0 A) (F0 m 20 ls1 [])) (Kh1 : ∀ (y0 : Nat) (y1 : Int32) (S2 : MS), out = .inl (.inr (.inl (y0, y1, S2))) → ∀ (H1 : Heap) (locs1 : List Loc) (ls1 : Array Slot), ST D cy ad A s.heap (ZN n0 s.heap.size) S2 H1 locs1 → lv_has ls1 3 [(0, .ref (ad y0)), (1, .int y1)] → W p l e rmX10_layChart s m args below meth c H1 locs1 0 0 (MQ below (QcM D cy ad A n0 S' (none)) args s 0 0 A) (F0 m 119 ls1 [])) (Kh2 : ∀ (y0 : Nat) (y1 : Int32) (S2 : MS), out = .inl (.inr (.inr (y0, y1, S2))) → ∀ (H1 : Heap) (locs1 : List Loc) (ls1 : Array Slot), ST D cy ad A s.heap (ZN n0 s.heap.size) S2 H1 locs1 → lv_has ls1 3 [(0, .ref (ad y0)), (1, .int y1)] → W p l e rmX10_layChart s m args below meth c H1 locs1 0 0 (MQ below (QcM D cy ad A n0 S' (none)) args s 0 0 A) (F0 m 174 ls1 [])) : W p l e rmX10_layChart s m args below meth c H locs 0 0 (MQ below (QcM D cy ad A n0 S' (none)) args s 0 0 A) (F0 m 20 ls []) := by
  unfold bX10_layChart_20 at hF
  obtain ⟨hx, hb, -, hown, -, hts, -⟩ := id C0
  refine lv_iload_n hx hb dX10_layChart_20 rfl (lv_at hl 1 rfl) ?_
  refine lv_aload_n hx hb dX10_layChart_21 rfl (lv_at hl 0 rfl) ?_
  obtain ⟨v22, hv, hF⟩ := ob hF
  refine k_getI C0 M.1 hv fl_X10_153 dX10_layChart_22 ?_
  refine lv_icmp_ge (tgt := 117) hx hb dX10_layChart_25 (by decide) (fun hc => ?_) (fun hc => ?_)
  · have hF := oi_t hc hF
    refine lv_iconst (v := (0 : Int32)) hx hb dX10_layChart_117 (by decide) ?_
    refine lv_istore_n (lv' := [(1, .int (0 : Int32)), (0, .ref (ad x0))]) hx hb dX10_layChart_118 rfl hl (by decide) rfl (fun ls hl => ?_)
    exact Kh1 _ _ _ (Option.some.inj hF).symm _ _ _ M (lv_sub hl [1, 0] rfl)
  · have hF := oi_f hc hF
    refine lv_aload_n hx hb dX10_layChart_28 rfl (lv_at hl 0 rfl) ?_
    obtain ⟨v29, hv, hF⟩ := ob hF
    refine k_getP C0 M.1 hv fl_X10_49 dX10_layChart_29 ?_
    refine lv_iload_n hx hb dX10_layChart_32 rfl (lv_at hl 1 rfl) ?_
    refine lv_aload_n hx hb dX10_layChart_33 rfl (lv_at hl 0 rfl) ?_
    refine lv_iload_n hx hb dX10_layChart_34 rfl (lv_at hl 1 rfl) ?_
    refine lv_aload_n hx hb dX10_layChart_35 rfl (lv_at hl 0 rfl) ?_
    obtain ⟨v36, hv, hF⟩ := ob hF
    refine k_getI C0 M.1 hv fl_X10_242 dX10_layChart_36 ?_
    obtain ⟨_, hrec, hF⟩ := ob hF
    obtain ⟨v39, hcl, hF⟩ := ob hF
    refine go_SI (r_V (rest := [.int x1, .ref (ad v29)]) (As := [.int x1, .int v36]) C0 cb_X10_192 M.1 hrec (tX10_placeOf l D cy ad A hcl) (pre_R C0 M.1) hl dX10_layChart_39 rfl (Nat.le_of_ble_eq_true rfl) ⟨rfl, rfl⟩ ⟨Nat.le_of_ble_eq_true rfl, Nat.le_of_ble_eq_true rfl⟩ ⟨Nat.le_of_ble_eq_true rfl, Nat.le_of_ble_eq_true rfl⟩ rfl) ?_
    obtain ⟨S42, hv, hF⟩ := ob hF
    refine k_st C0 M hv dX10_layChart_42 (fun H locs M => ?_)
    refine lv_aload_n hx hb dX10_layChart_43 rfl (lv_at hl 0 rfl) ?_
    obtain ⟨v44, hv, hF⟩ := ob hF
    refine k_getP C0 M.1 hv fl_X10_49 dX10_layChart_44 ?_
    refine lv_iload_n hx hb dX10_layChart_47 rfl (lv_at hl 1 rfl) ?_
    obtain ⟨v48, hv, hF⟩ := ob hF
    refine k_ld C0 M.1 hv dX10_layChart_48 ?_
    refine lv_if_ge (tgt := 57) hx hb dX10_layChart_49 (by decide) (fun hc => ?_) (fun hc => ?_)
    · have hF := oi_t hc hF
      refine lv_aload_n hx hb dX10_layChart_57 rfl (lv_at hl 0 rfl) ?_
      refine lv_iload_n hx hb dX10_layChart_58 rfl (lv_at hl 1 rfl) ?_
      obtain ⟨_, hrec, hF⟩ := ob hF
      obtain ⟨v59, hcl, hF⟩ := ob hF
      refine go_SI (r_V (rest := []) (As := [.int x1]) C0 cb_X10_275 M.1 hrec (tX10_lastWire l D cy ad A hcl) (pre_R C0 M.1) hl dX10_layChart_59 rfl (Nat.le_of_ble_eq_true rfl) ⟨rfl, rfl⟩ ⟨Nat.le_of_ble_eq_true rfl, Nat.le_of_ble_eq_true rfl⟩ ⟨Nat.le_of_ble_eq_true rfl, Nat.le_of_ble_eq_true rfl⟩ rfl) ?_
      exact wX10_layChart_62 ad A C0 M hr hF (lv_sub hl [0, 1] rfl) Kr Kh0 Kh1 Kh2
    · have hF := oi_f hc hF
      refine lv_bipush (v := (-9 : Int32)) hx hb dX10_layChart_52 (by decide) ?_
      refine lv_goto (tgt := 62) hx hb dX10_layChart_54 (by decide) ?_
      exact wX10_layChart_62 ad A C0 M hr hF (lv_sub hl [0, 1] rfl) Kr Kh0 Kh1 Kh2
set_option maxHeartbeats 4000000 in
set_option maxRecDepth 100000 in
theorem wX10_layChart_161 {p : Program} {l : Launch} {e : Env} {s : State} {m : MethodId} {args : Array Value} {below : List Frame} {meth : Method} {c : Code} {D : va_G} {cy : Nat → ClassId} (ad : Nat → Nat) (A : Nat → Prop) {S : MS} {S' : MS} {H : Heap} {locs : List Loc} {n0 : Nat} {out : (((Nat × Int32 × MS) ⊕ ((Nat × Int32 × MS) ⊕ (Nat × Int32 × MS))) ⊕ MS)} {ls : Array Slot} {x0 : Nat} {x1 : Int32} {z0 : Nat} {z1 : Int32} {z2 : Int32} (C0 : CX p s m args meth c RX10 cX10_layChart 3 D cy) (M : ST D cy ad A s.heap (ZN n0 s.heap.size) S H locs) (hr : meth.sig.returnType = none) (hF : bX10_layChart_161 S x0 x1 z0 z1 z2 = some out) (hl : lv_has ls 3 [(0, .ref (ad x0)), (1, .int x1)]) (Kr : ∀ r9, out = .inr r9 → r9 = S') (Kh0 : ∀ (y0 : Nat) (y1 : Int32) (S2 : MS), out = .inl (.inl (y0, y1, S2)) → ∀ (H1 : Heap) (locs1 : List Loc) (ls1 : Array Slot), ST D cy ad A s.heap (ZN n0 s.heap.size) S2 H1 locs1 → lv_has ls1 3 [(0, .ref (ad y0)), (1, .int y1)] → W p l e rmX10_layChart s m args below meth c H1 locs1 0 0 (MQ below (QcM D cy ad A n0 S' (none)) args s 0 0 A) (F0 m 20 ls1 [])) (Kh1 : ∀ (y0 : Nat) (y1 : Int32) (S2 : MS), out = .inl (.inr (.inl (y0, y1, S2))) → ∀ (H1 : Heap) (locs1 : List Loc) (ls1 : Array Slot), ST D cy ad A s.heap (ZN n0 s.heap.size) S2 H1 locs1 → lv_has ls1 3 [(0, .ref (ad y0)), (1, .int y1)] → W p l e rmX10_layChart s m args below meth c H1 locs1 0 0 (MQ below (QcM D cy ad A n0 S' (none)) args s 0 0 A) (F0 m 119 ls1 [])) (Kh2 : ∀ (y0 : Nat) (y1 : Int32) (S2 : MS), out = .inl (.inr (.inr (y0, y1, S2))) → ∀ (H1 : Heap) (locs1 : List Loc) (ls1 : Array Slot), ST D cy ad A s.heap (ZN n0 s.heap.size) S2 H1 locs1 → lv_has ls1 3 [(0, .ref (ad y0)), (1, .int y1)] → W p l e rmX10_layChart s m args below meth c H1 locs1 0 0 (MQ below (QcM D cy ad A n0 S' (none)) args s 0 0 A) (F0 m 174 ls1 [])) : W p l e rmX10_layChart s m args below meth c H locs 0 0 (MQ below (QcM D cy ad A n0 S' (none)) args s 0 0 A) (F0 m 161 ls [.int z2, .int z1, .ref (ad z0)]) := by
  unfold bX10_layChart_161 at hF
  obtain ⟨hx, hb, -, hown, -, hts, -⟩ := id C0
  obtain ⟨S161, hv, hF⟩ := ob hF
  refine k_st C0 M hv dX10_layChart_161 (fun H locs M => ?_)
  obtain ⟨v162, hv, hF⟩ := ob hF
  refine lv_iinc (v := v162) (lv' := [(1, .int v162), (0, .ref (ad x0))]) hx hb dX10_layChart_162 hl (k := 1) rfl (by rw [← vtI hv]; rfl) (by decide) rfl (fun ls hl => ?_)
  refine lv_goto (tgt := 119) hx hb dX10_layChart_165 (by decide) ?_
  exact Kh1 _ _ _ (Option.some.inj hF).symm _ _ _ M (lv_sub hl [1, 0] rfl)
set_option maxHeartbeats 4000000 in
set_option maxRecDepth 100000 in
theorem wX10_layChart_119 {p : Program} {l : Launch} {e : Env} {s : State} {m : MethodId} {args : Array Value} {below : List Frame} {meth : Method} {c : Code} {D : va_G} {cy : Nat → ClassId} (ad : Nat → Nat) (A : Nat → Prop) {S : MS} {S' : MS} {H : Heap} {locs : List Loc} {n0 : Nat} {out : (((Nat × Int32 × MS) ⊕ ((Nat × Int32 × MS) ⊕ (Nat × Int32 × MS))) ⊕ MS)} {ls : Array Slot} {x0 : Nat} {x1 : Int32} (C0 : CX p s m args meth c RX10 cX10_layChart 3 D cy) (M : ST D cy ad A s.heap (ZN n0 s.heap.size) S H locs) (hr : meth.sig.returnType = none) (hF : bX10_layChart_119 S x0 x1 = some out) (hl : lv_has ls 3 [(0, .ref (ad x0)), (1, .int x1)]) (Kr : ∀ r9, out = .inr r9 → r9 = S') (Kh0 : ∀ (y0 : Nat) (y1 : Int32) (S2 : MS), out = .inl (.inl (y0, y1, S2)) → ∀ (H1 : Heap) (locs1 : List Loc) (ls1 : Array Slot), ST D cy ad A s.heap (ZN n0 s.heap.size) S2 H1 locs1 → lv_has ls1 3 [(0, .ref (ad y0)), (1, .int y1)] → W p l e rmX10_layChart s m args below meth c H1 locs1 0 0 (MQ below (QcM D cy ad A n0 S' (none)) args s 0 0 A) (F0 m 20 ls1 [])) (Kh1 : ∀ (y0 : Nat) (y1 : Int32) (S2 : MS), out = .inl (.inr (.inl (y0, y1, S2))) → ∀ (H1 : Heap) (locs1 : List Loc) (ls1 : Array Slot), ST D cy ad A s.heap (ZN n0 s.heap.size) S2 H1 locs1 → lv_has ls1 3 [(0, .ref (ad y0)), (1, .int y1)] → W p l e rmX10_layChart s m args below meth c H1 locs1 0 0 (MQ below (QcM D cy ad A n0 S' (none)) args s 0 0 A) (F0 m 119 ls1 [])) (Kh2 : ∀ (y0 : Nat) (y1 : Int32) (S2 : MS), out = .inl (.inr (.inr (y0, y1, S2))) → ∀ (H1 : Heap) (locs1 : List Loc) (ls1 : Array Slot), ST D cy ad A s.heap (ZN n0 s.heap.size) S2 H1 locs1 → lv_has ls1 3 [(0, .ref (ad y0)), (1, .int y1)] → W p l e rmX10_layChart s m args below meth c H1 locs1 0 0 (MQ below (QcM D cy ad A n0 S' (none)) args s 0 0 A) (F0 m 174 ls1 [])) : W p l e rmX10_layChart s m args below meth c H locs 0 0 (MQ below (QcM D cy ad A n0 S' (none)) args s 0 0 A) (F0 m 119 ls []) := by
  unfold bX10_layChart_119 at hF
  obtain ⟨hx, hb, -, hown, -, hts, -⟩ := id C0
  refine lv_iload_n hx hb dX10_layChart_119 rfl (lv_at hl 1 rfl) ?_
  refine lv_aload_n hx hb dX10_layChart_120 rfl (lv_at hl 0 rfl) ?_
  obtain ⟨v121, hv, hF⟩ := ob hF
  refine k_getI C0 M.1 hv fl_X10_153 dX10_layChart_121 ?_
  refine lv_icmp_ge (tgt := 168) hx hb dX10_layChart_124 (by decide) (fun hc => ?_) (fun hc => ?_)
  · have hF := oi_t hc hF
    refine lv_aload_n hx hb dX10_layChart_168 rfl (lv_at hl 0 rfl) ?_
    obtain ⟨_, hrec, hF⟩ := ob hF
    obtain ⟨S169, hcl, hF⟩ := ob hF
    refine go_MV (r_V (rest := []) (As := []) C0 cb_X10_281 M.1 hrec (tX10_findDoubted l D cy ad A hcl) (pre_R C0 M.1) hl dX10_layChart_169 rfl (Nat.le_of_ble_eq_true rfl) ⟨rfl, rfl⟩ ⟨Nat.le_of_ble_eq_true rfl, Nat.le_of_ble_eq_true rfl⟩ ⟨Nat.le_of_ble_eq_true rfl, Nat.le_of_ble_eq_true rfl⟩ rfl) M (fun H locs M => ?_)
    refine lv_iconst (v := (0 : Int32)) hx hb dX10_layChart_172 (by decide) ?_
    refine lv_istore_n (lv' := [(1, .int (0 : Int32)), (0, .ref (ad x0))]) hx hb dX10_layChart_173 rfl hl (by decide) rfl (fun ls hl => ?_)
    exact Kh2 _ _ _ (Option.some.inj hF).symm _ _ _ M (lv_sub hl [1, 0] rfl)
  · have hF := oi_f hc hF
    refine lv_aload_n hx hb dX10_layChart_127 rfl (lv_at hl 0 rfl) ?_
    obtain ⟨v128, hv, hF⟩ := ob hF
    refine k_getP C0 M.1 hv fl_X10_52 dX10_layChart_128 ?_
    refine lv_iload_n hx hb dX10_layChart_131 rfl (lv_at hl 1 rfl) ?_
    refine lv_aload_n hx hb dX10_layChart_132 rfl (lv_at hl 0 rfl) ?_
    obtain ⟨v133, hv, hF⟩ := ob hF
    refine k_getP C0 M.1 hv fl_X10_46 dX10_layChart_133 ?_
    refine lv_iload_n hx hb dX10_layChart_136 rfl (lv_at hl 1 rfl) ?_
    obtain ⟨v137, hv, hF⟩ := ob hF
    refine k_ld C0 M.1 hv dX10_layChart_137 ?_
    refine lv_if_ge (tgt := 146) hx hb dX10_layChart_138 (by decide) (fun hc => ?_) (fun hc => ?_)
    · have hF := oi_t hc hF
      refine lv_aload_n hx hb dX10_layChart_146 rfl (lv_at hl 0 rfl) ?_
      refine lv_iload_n hx hb dX10_layChart_147 rfl (lv_at hl 1 rfl) ?_
      refine lv_aload_n hx hb dX10_layChart_148 rfl (lv_at hl 0 rfl) ?_
      refine lv_aload_n hx hb dX10_layChart_149 rfl (lv_at hl 0 rfl) ?_
      obtain ⟨v150, hv, hF⟩ := ob hF
      refine k_getP C0 M.1 hv fl_X10_46 dX10_layChart_150 ?_
      refine lv_iload_n hx hb dX10_layChart_153 rfl (lv_at hl 1 rfl) ?_
      obtain ⟨v154, hv, hF⟩ := ob hF
      refine k_ld C0 M.1 hv dX10_layChart_154 ?_
      obtain ⟨_, hrec, hF⟩ := ob hF
      obtain ⟨v155, hcl, hF⟩ := ob hF
      refine go_SI (r_V (rest := [.int x1, .ref (ad x0), .int x1, .ref (ad v128)]) (As := [.int v154]) C0 cb_X10_278 M.1 hrec (tX10_mendedOf l D cy ad A hcl) (pre_R C0 M.1) hl dX10_layChart_155 rfl (Nat.le_of_ble_eq_true rfl) ⟨rfl, rfl⟩ ⟨Nat.le_of_ble_eq_true rfl, Nat.le_of_ble_eq_true rfl⟩ ⟨Nat.le_of_ble_eq_true rfl, Nat.le_of_ble_eq_true rfl⟩ rfl) ?_
      obtain ⟨_, hrec, hF⟩ := ob hF
      obtain ⟨v158, hcl, hF⟩ := ob hF
      refine go_SI (r_V (rest := [.int x1, .ref (ad v128)]) (As := [.int x1, .int v155]) C0 cb_X10_251 M.1 hrec (tX10_levelBy l D cy ad A hcl) (pre_R C0 M.1) hl dX10_layChart_158 rfl (Nat.le_of_ble_eq_true rfl) ⟨rfl, rfl⟩ ⟨Nat.le_of_ble_eq_true rfl, Nat.le_of_ble_eq_true rfl⟩ ⟨Nat.le_of_ble_eq_true rfl, Nat.le_of_ble_eq_true rfl⟩ rfl) ?_
      exact wX10_layChart_161 ad A C0 M hr hF (lv_sub hl [0, 1] rfl) Kr Kh0 Kh1 Kh2
    · have hF := oi_f hc hF
      refine lv_bipush (v := (-9 : Int32)) hx hb dX10_layChart_141 (by decide) ?_
      refine lv_goto (tgt := 161) hx hb dX10_layChart_143 (by decide) ?_
      exact wX10_layChart_161 ad A C0 M hr hF (lv_sub hl [0, 1] rfl) Kr Kh0 Kh1 Kh2
set_option maxHeartbeats 4000000 in
set_option maxRecDepth 100000 in
theorem wX10_layChart_174 {p : Program} {l : Launch} {e : Env} {s : State} {m : MethodId} {args : Array Value} {below : List Frame} {meth : Method} {c : Code} {D : va_G} {cy : Nat → ClassId} (ad : Nat → Nat) (A : Nat → Prop) {S : MS} {S' : MS} {H : Heap} {locs : List Loc} {n0 : Nat} {out : (((Nat × Int32 × MS) ⊕ ((Nat × Int32 × MS) ⊕ (Nat × Int32 × MS))) ⊕ MS)} {ls : Array Slot} {x0 : Nat} {x1 : Int32} (C0 : CX p s m args meth c RX10 cX10_layChart 3 D cy) (M : ST D cy ad A s.heap (ZN n0 s.heap.size) S H locs) (hr : meth.sig.returnType = none) (hF : bX10_layChart_174 S x0 x1 = some out) (hl : lv_has ls 3 [(0, .ref (ad x0)), (1, .int x1)]) (Kr : ∀ r9, out = .inr r9 → r9 = S') (Kh0 : ∀ (y0 : Nat) (y1 : Int32) (S2 : MS), out = .inl (.inl (y0, y1, S2)) → ∀ (H1 : Heap) (locs1 : List Loc) (ls1 : Array Slot), ST D cy ad A s.heap (ZN n0 s.heap.size) S2 H1 locs1 → lv_has ls1 3 [(0, .ref (ad y0)), (1, .int y1)] → W p l e rmX10_layChart s m args below meth c H1 locs1 0 0 (MQ below (QcM D cy ad A n0 S' (none)) args s 0 0 A) (F0 m 20 ls1 [])) (Kh1 : ∀ (y0 : Nat) (y1 : Int32) (S2 : MS), out = .inl (.inr (.inl (y0, y1, S2))) → ∀ (H1 : Heap) (locs1 : List Loc) (ls1 : Array Slot), ST D cy ad A s.heap (ZN n0 s.heap.size) S2 H1 locs1 → lv_has ls1 3 [(0, .ref (ad y0)), (1, .int y1)] → W p l e rmX10_layChart s m args below meth c H1 locs1 0 0 (MQ below (QcM D cy ad A n0 S' (none)) args s 0 0 A) (F0 m 119 ls1 [])) (Kh2 : ∀ (y0 : Nat) (y1 : Int32) (S2 : MS), out = .inl (.inr (.inr (y0, y1, S2))) → ∀ (H1 : Heap) (locs1 : List Loc) (ls1 : Array Slot), ST D cy ad A s.heap (ZN n0 s.heap.size) S2 H1 locs1 → lv_has ls1 3 [(0, .ref (ad y0)), (1, .int y1)] → W p l e rmX10_layChart s m args below meth c H1 locs1 0 0 (MQ below (QcM D cy ad A n0 S' (none)) args s 0 0 A) (F0 m 174 ls1 [])) : W p l e rmX10_layChart s m args below meth c H locs 0 0 (MQ below (QcM D cy ad A n0 S' (none)) args s 0 0 A) (F0 m 174 ls []) := by
  unfold bX10_layChart_174 at hF
  obtain ⟨hx, hb, -, hown, -, hts, -⟩ := id C0
  refine lv_iload_n hx hb dX10_layChart_174 rfl (lv_at hl 1 rfl) ?_
  refine lv_sipush (v := (144 : Int32)) hx hb dX10_layChart_175 (by decide) ?_
  refine lv_icmp_ge (tgt := 198) hx hb dX10_layChart_178 (by decide) (fun hc => ?_) (fun hc => ?_)
  · have hF := oi_t hc hF
    obtain rfl := (Kr _ (Option.some.inj hF).symm)
    exact rt_MV C0 M hr dX10_layChart_198
  · have hF := oi_f hc hF
    refine lv_aload_n hx hb dX10_layChart_181 rfl (lv_at hl 0 rfl) ?_
    obtain ⟨v182, hv, hF⟩ := ob hF
    refine k_getP C0 M.1 hv fl_X10_55 dX10_layChart_182 ?_
    refine lv_iload_n hx hb dX10_layChart_185 rfl (lv_at hl 1 rfl) ?_
    refine lv_aload_n hx hb dX10_layChart_186 rfl (lv_at hl 0 rfl) ?_
    refine lv_iload_n hx hb dX10_layChart_187 rfl (lv_at hl 1 rfl) ?_
    obtain ⟨_, hrec, hF⟩ := ob hF
    obtain ⟨v188, hcl, hF⟩ := ob hF
    refine go_SI (r_V (rest := [.int x1, .ref (ad v182)]) (As := [.int x1]) C0 cb_X10_284 M.1 hrec (tX10_valueAt l D cy ad A hcl) (pre_R C0 M.1) hl dX10_layChart_188 rfl (Nat.le_of_ble_eq_true rfl) ⟨rfl, rfl⟩ ⟨Nat.le_of_ble_eq_true rfl, Nat.le_of_ble_eq_true rfl⟩ ⟨Nat.le_of_ble_eq_true rfl, Nat.le_of_ble_eq_true rfl⟩ rfl) ?_
    obtain ⟨S191, hv, hF⟩ := ob hF
    refine k_st C0 M hv dX10_layChart_191 (fun H locs M => ?_)
    obtain ⟨v192, hv, hF⟩ := ob hF
    refine lv_iinc (v := v192) (lv' := [(1, .int v192), (0, .ref (ad x0))]) hx hb dX10_layChart_192 hl (k := 1) rfl (by rw [← vtI hv]; rfl) (by decide) rfl (fun ls hl => ?_)
    refine lv_goto (tgt := 174) hx hb dX10_layChart_195 (by decide) ?_
    exact Kh2 _ _ _ (Option.some.inj hF).symm _ _ _ M (lv_sub hl [1, 0] rfl)
set_option maxHeartbeats 4000000 in
set_option maxRecDepth 100000 in
theorem tX10_layChart (l : Launch) (D : va_G) (cy : Nat → ClassId) (ad : Nat → Nat) (A : Nat → Prop) {S S' : MS} {a0 : Nat} (h : fX10_layChart S a0 = some S') : Met l yX10_layChart [Cond.code yX10_layChart cX10_layChart 3 (none)] rmX10_layChart (PcR D cy ad A S [.ref (ad a0)]) (QcM D cy ad A (m_n S) S' (none)) 0 0 A := by
  refine met_M (by decide +kernel) cw_X10_layChart (Nat.le_of_ble_eq_true rfl) ?_
  intro p e s m args below meth c ls C0 M hr hin hl
  have hl : lv_has ls 3 [(0, .ref (ad a0))] := hl
  have key := lim_walk (step := sX10_layChart) (fun (q : ((Nat × Int32 × MS) ⊕ ((Nat × Int32 × MS) ⊕ (Nat × Int32 × MS)))) (r9 : MS) => ∀ (S' : MS), r9 = S' → ((∀ (y0 : Nat) (y1 : Int32) (S2 : MS), q = (.inl (y0, y1, S2)) → ∀ (H1 : Heap) (locs1 : List Loc) (ls1 : Array Slot), ST D cy ad A s.heap (ZN (m_n S) s.heap.size) S2 H1 locs1 → lv_has ls1 3 [(0, .ref (ad y0)), (1, .int y1)] → W p l e rmX10_layChart s m args below meth c H1 locs1 0 0 (MQ below (QcM D cy ad A (m_n S) S' (none)) args s 0 0 A) (F0 m 20 ls1 [])) ∧ (∀ (y0 : Nat) (y1 : Int32) (S2 : MS), q = (.inr (.inl (y0, y1, S2))) → ∀ (H1 : Heap) (locs1 : List Loc) (ls1 : Array Slot), ST D cy ad A s.heap (ZN (m_n S) s.heap.size) S2 H1 locs1 → lv_has ls1 3 [(0, .ref (ad y0)), (1, .int y1)] → W p l e rmX10_layChart s m args below meth c H1 locs1 0 0 (MQ below (QcM D cy ad A (m_n S) S' (none)) args s 0 0 A) (F0 m 119 ls1 [])) ∧ (∀ (y0 : Nat) (y1 : Int32) (S2 : MS), q = (.inr (.inr (y0, y1, S2))) → ∀ (H1 : Heap) (locs1 : List Loc) (ls1 : Array Slot), ST D cy ad A s.heap (ZN (m_n S) s.heap.size) S2 H1 locs1 → lv_has ls1 3 [(0, .ref (ad y0)), (1, .int y1)] → W p l e rmX10_layChart s m args below meth c H1 locs1 0 0 (MQ below (QcM D cy ad A (m_n S) S' (none)) args s 0 0 A) (F0 m 174 ls1 [])))) ?_
  · unfold fX10_layChart at h
    cases hs0 : bX10_layChart_0 S a0 with
    | none => rw [hs0] at h; cases h
    | some out =>
      rw [hs0] at h
      refine wX10_layChart_0 ad A C0 M hr hs0 hl (fun r9 hr9 => ?_) ?_ ?_ ?_
      · subst hr9; exact Option.some.inj h
      · intro y0 y1 y2 hq; subst hq; exact (key _ _ h _ rfl).1 _ _ _ rfl
      · intro y0 y1 y2 hq; subst hq; exact (key _ _ h _ rfl).2.1 _ _ _ rfl
      · intro y0 y1 y2 hq; subst hq; exact (key _ _ h _ rfl).2.2 _ _ _ rfl
  · intro q r9 out hst hre hin9
    intro S' er; subst er
    refine ⟨?_, ?_, ?_⟩
    · intro y0 y1 y2 hq H1 locs1 ls1 M hl
      subst hq
      exact wX10_layChart_20 ad A C0 M hr hst hl hre (fun k0 k1 k2 hk => (hin9 _ hk _ rfl).1 _ _ _ rfl) (fun k0 k1 k2 hk => (hin9 _ hk _ rfl).2.1 _ _ _ rfl) (fun k0 k1 k2 hk => (hin9 _ hk _ rfl).2.2 _ _ _ rfl)
    · intro y0 y1 y2 hq H1 locs1 ls1 M hl
      subst hq
      exact wX10_layChart_119 ad A C0 M hr hst hl hre (fun k0 k1 k2 hk => (hin9 _ hk _ rfl).1 _ _ _ rfl) (fun k0 k1 k2 hk => (hin9 _ hk _ rfl).2.1 _ _ _ rfl) (fun k0 k1 k2 hk => (hin9 _ hk _ rfl).2.2 _ _ _ rfl)
    · intro y0 y1 y2 hq H1 locs1 ls1 M hl
      subst hq
      exact wX10_layChart_174 ad A C0 M hr hst hl hre (fun k0 k1 k2 hk => (hin9 _ hk _ rfl).1 _ _ _ rfl) (fun k0 k1 k2 hk => (hin9 _ hk _ rfl).2.1 _ _ _ rfl) (fun k0 k1 k2 hk => (hin9 _ hk _ rfl).2.2 _ _ _ rfl)
set_option maxHeartbeats 4000000 in
set_option maxRecDepth 100000 in
theorem wX10_noPost_21 {p : Program} {l : Launch} {e : Env} {s : State} {m : MethodId} {args : Array Value} {below : List Frame} {meth : Method} {c : Code} {D : va_G} {cy : Nat → ClassId} (ad : Nat → Nat) (A : Nat → Prop) {S : MS} {r : Int32} {ls : Array Slot} {z0 : Int32} (C0 : CX p s m args meth c RX10 cX10_noPost 2 D cy) (M : MW D cy ad A S s.heap) (hr : meth.sig.returnType = some .boolean) (hF : bX10_noPost_21 S z0 = some r) (hl : lv_has ls 2 []) : W p l e rmX10_noPost s m args below meth c s.heap [] 0 0 (MQ below (QcS (some (.int r))) args s 0 0 (fun _ => False)) (F0 m 21 ls [.int z0]) := by
  unfold bX10_noPost_21 at hF
  obtain ⟨hx, hb, -, hown, -, hts, -⟩ := id C0
  obtain ⟨z21, hz, hF⟩ := ob hF
  have hz2 := (o_if hz).2
  refine vtopi hz2 ?_
  rw [hz2] at hz
  obtain rfl := (Option.some.inj hF)
  exact rt_SZ C0 hr hz dX10_noPost_21
set_option maxHeartbeats 4000000 in
set_option maxRecDepth 100000 in
theorem wX10_noPost_0 {p : Program} {l : Launch} {e : Env} {s : State} {m : MethodId} {args : Array Value} {below : List Frame} {meth : Method} {c : Code} {D : va_G} {cy : Nat → ClassId} (ad : Nat → Nat) (A : Nat → Prop) {S : MS} {r : Int32} {ls : Array Slot} {x0 : Nat} {x1 : Int32} (C0 : CX p s m args meth c RX10 cX10_noPost 2 D cy) (M : MW D cy ad A S s.heap) (hr : meth.sig.returnType = some .boolean) (hF : bX10_noPost_0 S x0 x1 = some r) (hl : lv_has ls 2 [(0, .ref (ad x0)), (1, .int x1)]) : W p l e rmX10_noPost s m args below meth c s.heap [] 0 0 (MQ below (QcS (some (.int r))) args s 0 0 (fun _ => False)) (F0 m 0 ls []) := by
  unfold bX10_noPost_0 at hF
  obtain ⟨hx, hb, -, hown, -, hts, -⟩ := id C0
  refine lv_iload_n hx hb dX10_noPost_0 rfl (lv_at hl 1 rfl) ?_
  refine lv_i2l (v := (x1.toInt64)) hx hb dX10_noPost_1 rfl ?_
  refine lv_lconst (v := (0 : Int64)) hx hb dX10_noPost_2 (by decide) ?_
  refine lv_aload_n hx hb dX10_noPost_3 rfl (lv_at hl 0 rfl) ?_
  obtain ⟨v4, hv, hF⟩ := ob hF
  refine k_getI C0 M hv fl_X10_153 dX10_noPost_4 ?_
  refine lv_i2l (v := (v4.toInt64)) hx hb dX10_noPost_7 rfl ?_
  refine lv_lconst (v := (1 : Int64)) hx hb dX10_noPost_8 (by decide) ?_
  refine lv_lsub hx hb dX10_noPost_9 ?_
  obtain ⟨v10, hcl, hF⟩ := ob hF
  refine go_SI (r_S (rest := []) (As := [.long (x1.toInt64), .long (0 : Int64), .long ((v4.toInt64) - (1 : Int64))]) C0 cb_X10_156 (tX10_in l D cy ad hcl) (pre_S C0) hl dX10_noPost_10 rfl (Nat.le_of_ble_eq_true rfl) ⟨rfl, rfl⟩ ⟨Nat.le_of_ble_eq_true rfl, Nat.le_of_ble_eq_true rfl⟩ ⟨Nat.le_of_ble_eq_true rfl, Nat.le_of_ble_eq_true rfl⟩ rfl) ?_
  refine lv_if_ne (tgt := 20) hx hb dX10_noPost_13 (by decide) (fun hc => ?_) (fun hc => ?_)
  · have hF := oi_f hc hF
    refine lv_iconst (v := (0 : Int32)) hx hb dX10_noPost_20 (by decide) ?_
    exact wX10_noPost_21 ad A C0 M hr hF (lv_sub hl [] rfl)
  · have hF := oi_t hc hF
    refine lv_iconst (v := (1 : Int32)) hx hb dX10_noPost_16 (by decide) ?_
    refine lv_goto (tgt := 21) hx hb dX10_noPost_17 (by decide) ?_
    exact wX10_noPost_21 ad A C0 M hr hF (lv_sub hl [] rfl)
set_option maxHeartbeats 4000000 in
set_option maxRecDepth 100000 in
theorem tX10_noPost (l : Launch) (D : va_G) (cy : Nat → ClassId) (ad : Nat → Nat) (A : Nat → Prop) {S : MS} {a0 : Nat} {a1 : Int32} {r : Int32} (h : fX10_noPost S a0 a1 = some r) : Met l yX10_noPost [Cond.code yX10_noPost cX10_noPost 2 (some .boolean)] rmX10_noPost (PcR D cy ad A S [.ref (ad a0), .int a1]) (QcS (some (.int r))) 0 0 (fun _ => False) := by
  refine met_R (by decide +kernel) cw_X10_noPost (Nat.le_of_ble_eq_true rfl) ?_
  intro p e s m args below meth c ls C0 M hr hl
  have hl : lv_has ls 2 [(0, .ref (ad a0)), (1, .int a1)] := hl
  exact wX10_noPost_0 ad A C0 M hr h hl
set_option maxHeartbeats 4000000 in
set_option maxRecDepth 100000 in
theorem wX10_about_150 {p : Program} {l : Launch} {e : Env} {s : State} {m : MethodId} {args : Array Value} {below : List Frame} {meth : Method} {c : Code} {D : va_G} {cy : Nat → ClassId} (ad : Nat → Nat) (A : Nat → Prop) {S : MS} {S' : MS} {H : Heap} {locs : List Loc} {n0 : Nat} {r : Int32} {out : ((Nat × Int32 × Int32 × Int32 × MS) ⊕ (Int32 × MS))} {ls : Array Slot} {z0 : Int32} (C0 : CX p s m args meth c RX10 cX10_about 5 D cy) (M : ST D cy ad A s.heap (ZN n0 s.heap.size) S H locs) (hr : meth.sig.returnType = some .int) (hF : bX10_about_150 S z0 = some out) (hl : lv_has ls 5 []) (Kr : ∀ r9, out = .inr r9 → r9 = (r, S')) (Kh0 : ∀ (y0 : Nat) (y1 : Int32) (y2 : Int32) (y3 : Int32) (S2 : MS), out = .inl (y0, y1, y2, y3, S2) → ∀ (H1 : Heap) (locs1 : List Loc) (ls1 : Array Slot), ST D cy ad A s.heap (ZN n0 s.heap.size) S2 H1 locs1 → lv_has ls1 5 [(0, .ref (ad y0)), (1, .int y1), (3, .int y2), (4, .int y3)] → W p l e rmX10_about s m args below meth c H1 locs1 0 0 (MQ below (QcM D cy ad A n0 S' (some (.int r))) args s 0 0 A) (F0 m 91 ls1 [])) : W p l e rmX10_about s m args below meth c H locs 0 0 (MQ below (QcM D cy ad A n0 S' (some (.int r))) args s 0 0 A) (F0 m 150 ls [.int z0]) := by
  unfold bX10_about_150 at hF
  obtain ⟨hx, hb, -, hown, -, hts, -⟩ := id C0
  obtain ⟨rfl, rfl⟩ := Prod.mk.inj (Kr _ (Option.some.inj hF).symm)
  exact rt_MI C0 M hr dX10_about_150
set_option maxHeartbeats 4000000 in
set_option maxRecDepth 100000 in
theorem wX10_about_0 {p : Program} {l : Launch} {e : Env} {s : State} {m : MethodId} {args : Array Value} {below : List Frame} {meth : Method} {c : Code} {D : va_G} {cy : Nat → ClassId} (ad : Nat → Nat) (A : Nat → Prop) {S : MS} {S' : MS} {H : Heap} {locs : List Loc} {n0 : Nat} {r : Int32} {out : ((Nat × Int32 × Int32 × Int32 × MS) ⊕ (Int32 × MS))} {ls : Array Slot} {x0 : Nat} {x1 : Int32} {x2 : Int32} (C0 : CX p s m args meth c RX10 cX10_about 5 D cy) (M : ST D cy ad A s.heap (ZN n0 s.heap.size) S H locs) (hr : meth.sig.returnType = some .int) (hF : bX10_about_0 S x0 x1 x2 = some out) (hl : lv_has ls 5 [(0, .ref (ad x0)), (1, .int x1), (2, .int x2)]) (Kr : ∀ r9, out = .inr r9 → r9 = (r, S')) (Kh0 : ∀ (y0 : Nat) (y1 : Int32) (y2 : Int32) (y3 : Int32) (S2 : MS), out = .inl (y0, y1, y2, y3, S2) → ∀ (H1 : Heap) (locs1 : List Loc) (ls1 : Array Slot), ST D cy ad A s.heap (ZN n0 s.heap.size) S2 H1 locs1 → lv_has ls1 5 [(0, .ref (ad y0)), (1, .int y1), (3, .int y2), (4, .int y3)] → W p l e rmX10_about s m args below meth c H1 locs1 0 0 (MQ below (QcM D cy ad A n0 S' (some (.int r))) args s 0 0 A) (F0 m 91 ls1 [])) : W p l e rmX10_about s m args below meth c H locs 0 0 (MQ below (QcM D cy ad A n0 S' (some (.int r))) args s 0 0 A) (F0 m 0 ls []) := by
  unfold bX10_about_0 at hF
  obtain ⟨hx, hb, -, hown, -, hts, -⟩ := id C0
  refine lv_aload_n hx hb dX10_about_0 rfl (lv_at hl 0 rfl) ?_
  refine lv_iload_n hx hb dX10_about_1 rfl (lv_at hl 1 rfl) ?_
  obtain ⟨_, hrec, hF⟩ := ob hF
  obtain ⟨v2, hcl, hF⟩ := ob hF
  refine go_SI (r_V (rest := []) (As := [.int x1]) C0 cb_X10_186 M.1 hrec (tX10_noPost l D cy ad A hcl) (pre_R C0 M.1) hl dX10_about_2 rfl (Nat.le_of_ble_eq_true rfl) ⟨rfl, rfl⟩ ⟨Nat.le_of_ble_eq_true rfl, Nat.le_of_ble_eq_true rfl⟩ ⟨Nat.le_of_ble_eq_true rfl, Nat.le_of_ble_eq_true rfl⟩ rfl) ?_
  refine lv_if_eq (tgt := 10) hx hb dX10_about_5 (by decide) (fun hc => ?_) (fun hc => ?_)
  · have hF := oi_t hc hF
    refine lv_aload_n hx hb dX10_about_10 rfl (lv_at hl 0 rfl) ?_
    obtain ⟨_, hrec, hF⟩ := ob hF
    obtain ⟨S11, hcl, hF⟩ := ob hF
    refine go_MV (r_V (rest := []) (As := []) C0 cb_X10_237 M.1 hrec (tX10_layChart l D cy ad A hcl) (pre_R C0 M.1) hl dX10_about_11 rfl (Nat.le_of_ble_eq_true rfl) ⟨rfl, rfl⟩ ⟨Nat.le_of_ble_eq_true rfl, Nat.le_of_ble_eq_true rfl⟩ ⟨Nat.le_of_ble_eq_true rfl, Nat.le_of_ble_eq_true rfl⟩ rfl) M (fun H locs M => ?_)
    refine lv_iconst (v := (0 : Int32)) hx hb dX10_about_14 (by decide) ?_
    refine lv_istore_n (lv' := [(3, .int (0 : Int32)), (0, .ref (ad x0)), (1, .int x1), (2, .int x2)]) hx hb dX10_about_15 rfl hl (by decide) rfl (fun ls hl => ?_)
    refine lv_iload_n hx hb dX10_about_16 rfl (lv_at hl 3 rfl) ?_
    by_cases hc0 : x2 = (0 : Int32)
    · have hF := oi_t hc0 hF
      refine lv_tableIn (tgt := 60) (off := 43) hx hb dX10_about_17 (by rw [hc0]; decide) (by rw [hc0]; decide) (by rw [hc0]; rfl) (by decide) ?_
      refine lv_aload_n hx hb dX10_about_60 rfl (lv_at hl 1 rfl) ?_
      obtain ⟨v61, hv, hF⟩ := ob hF
      refine k_getP C0 M.1 hv fl_X10_7 dX10_about_61 ?_
      refine lv_iload_n hx hb dX10_about_64 rfl (lv_at hl 2 rfl) ?_
      obtain ⟨v65, hv, hF⟩ := ob hF
      refine k_ld C0 M.1 hv dX10_about_65 ?_
      obtain ⟨rfl, rfl⟩ := Prod.mk.inj (Kr _ (Option.some.inj hF).symm)
      exact rt_MI C0 M hr dX10_about_66
    have hF := oi_f hc0 hF
    by_cases hc1 : x2 = (1 : Int32)
    · have hF := oi_t hc1 hF
      refine lv_tableIn (tgt := 67) (off := 50) hx hb dX10_about_17 (by rw [hc1]; decide) (by rw [hc1]; decide) (by rw [hc1]; rfl) (by decide) ?_
      refine lv_aload_n hx hb dX10_about_67 rfl (lv_at hl 1 rfl) ?_
      obtain ⟨v68, hv, hF⟩ := ob hF
      refine k_getP C0 M.1 hv fl_X10_13 dX10_about_68 ?_
      refine lv_iload_n hx hb dX10_about_71 rfl (lv_at hl 2 rfl) ?_
      obtain ⟨v72, hv, hF⟩ := ob hF
      refine k_ld C0 M.1 hv dX10_about_72 ?_
      obtain ⟨rfl, rfl⟩ := Prod.mk.inj (Kr _ (Option.some.inj hF).symm)
      exact rt_MI C0 M hr dX10_about_73
    have hF := oi_f hc1 hF
    by_cases hc2 : x2 = (2 : Int32)
    · have hF := oi_t hc2 hF
      refine lv_tableIn (tgt := 74) (off := 57) hx hb dX10_about_17 (by rw [hc2]; decide) (by rw [hc2]; decide) (by rw [hc2]; rfl) (by decide) ?_
      refine lv_aload_n hx hb dX10_about_74 rfl (lv_at hl 1 rfl) ?_
      obtain ⟨v75, hv, hF⟩ := ob hF
      refine k_getP C0 M.1 hv fl_X10_16 dX10_about_75 ?_
      refine lv_iload_n hx hb dX10_about_78 rfl (lv_at hl 2 rfl) ?_
      obtain ⟨v79, hv, hF⟩ := ob hF
      refine k_ld C0 M.1 hv dX10_about_79 ?_
      obtain ⟨rfl, rfl⟩ := Prod.mk.inj (Kr _ (Option.some.inj hF).symm)
      exact rt_MI C0 M hr dX10_about_80
    have hF := oi_f hc2 hF
    by_cases hc3 : x2 = (3 : Int32)
    · have hF := oi_t hc3 hF
      refine lv_tableIn (tgt := 81) (off := 64) hx hb dX10_about_17 (by rw [hc3]; decide) (by rw [hc3]; decide) (by rw [hc3]; rfl) (by decide) ?_
      refine lv_aload_n hx hb dX10_about_81 rfl (lv_at hl 1 rfl) ?_
      obtain ⟨v82, hv, hF⟩ := ob hF
      refine k_getP C0 M.1 hv fl_X10_19 dX10_about_82 ?_
      refine lv_iload_n hx hb dX10_about_85 rfl (lv_at hl 2 rfl) ?_
      obtain ⟨v86, hv, hF⟩ := ob hF
      refine k_ld C0 M.1 hv dX10_about_86 ?_
      obtain ⟨rfl, rfl⟩ := Prod.mk.inj (Kr _ (Option.some.inj hF).symm)
      exact rt_MI C0 M hr dX10_about_87
    have hF := oi_f hc3 hF
    by_cases hc4 : x2 = (4 : Int32)
    · have hF := oi_t hc4 hF
      refine lv_tableIn (tgt := 88) (off := 71) hx hb dX10_about_17 (by rw [hc4]; decide) (by rw [hc4]; decide) (by rw [hc4]; rfl) (by decide) ?_
      refine lv_iconst (v := (0 : Int32)) hx hb dX10_about_88 (by decide) ?_
      refine lv_istore (lv' := [(4, .int (0 : Int32)), (3, .int (0 : Int32)), (0, .ref (ad x0)), (1, .int x1), (2, .int x2)]) hx hb dX10_about_89 hl (by decide) rfl (fun ls hl => ?_)
      exact Kh0 _ _ _ _ _ (Option.some.inj hF).symm _ _ _ M (lv_sub hl [2, 3, 1, 0] rfl)
    have hF := oi_f hc4 hF
    by_cases hc5 : x2 = (5 : Int32)
    · have hF := oi_t hc5 hF
      refine lv_tableIn (tgt := 127) (off := 110) hx hb dX10_about_17 (by rw [hc5]; decide) (by rw [hc5]; decide) (by rw [hc5]; rfl) (by decide) ?_
      refine lv_aload_n hx hb dX10_about_127 rfl (lv_at hl 1 rfl) ?_
      obtain ⟨v128, hv, hF⟩ := ob hF
      refine k_getP C0 M.1 hv fl_X10_46 dX10_about_128 ?_
      refine lv_iload_n hx hb dX10_about_131 rfl (lv_at hl 2 rfl) ?_
      obtain ⟨v132, hv, hF⟩ := ob hF
      refine k_ld C0 M.1 hv dX10_about_132 ?_
      obtain ⟨rfl, rfl⟩ := Prod.mk.inj (Kr _ (Option.some.inj hF).symm)
      exact rt_MI C0 M hr dX10_about_133
    have hF := oi_f hc5 hF
    by_cases hc6 : x2 = (6 : Int32)
    · have hF := oi_t hc6 hF
      refine lv_tableIn (tgt := 134) (off := 117) hx hb dX10_about_17 (by rw [hc6]; decide) (by rw [hc6]; decide) (by rw [hc6]; rfl) (by decide) ?_
      refine lv_aload_n hx hb dX10_about_134 rfl (lv_at hl 1 rfl) ?_
      obtain ⟨v135, hv, hF⟩ := ob hF
      refine k_getI C0 M.1 hv fl_X10_263 dX10_about_135 ?_
      refine lv_iload_n hx hb dX10_about_138 rfl (lv_at hl 2 rfl) ?_
      obtain ⟨v139, hcl, hF⟩ := ob hF
      refine go_SI (r_S (rest := []) (As := [.int v135, .int x1]) C0 cb_X10_245 (tX10_hasBit l D cy ad hcl) (pre_S C0) hl dX10_about_139 rfl (Nat.le_of_ble_eq_true rfl) ⟨rfl, rfl⟩ ⟨Nat.le_of_ble_eq_true rfl, Nat.le_of_ble_eq_true rfl⟩ ⟨Nat.le_of_ble_eq_true rfl, Nat.le_of_ble_eq_true rfl⟩ rfl) ?_
      refine lv_if_eq (tgt := 149) hx hb dX10_about_142 (by decide) (fun hc => ?_) (fun hc => ?_)
      · have hF := oi_t hc hF
        refine lv_iconst (v := (0 : Int32)) hx hb dX10_about_149 (by decide) ?_
        exact wX10_about_150 ad A C0 M hr hF (lv_sub hl [] rfl) Kr Kh0
      · have hF := oi_f hc hF
        refine lv_iconst (v := (1 : Int32)) hx hb dX10_about_145 (by decide) ?_
        refine lv_goto (tgt := 150) hx hb dX10_about_146 (by decide) ?_
        exact wX10_about_150 ad A C0 M hr hF (lv_sub hl [] rfl) Kr Kh0
    have hF := oi_f hc6 hF
    refine lv_tableOut (tgt := 151) hx hb dX10_about_17 (tsw (x := x2) (n := 7) (by decide) (fun k hk => by rcases (show k = 0 ∨ k = 1 ∨ k = 2 ∨ k = 3 ∨ k = 4 ∨ k = 5 ∨ k = 6 by omega) with rfl | rfl | rfl | rfl | rfl | rfl | rfl <;> first | exact hc0 | exact hc1 | exact hc2 | exact hc3 | exact hc4 | exact hc5 | exact hc6)) (by decide) ?_
    refine lv_bipush (v := (-2 : Int32)) hx hb dX10_about_151 (by decide) ?_
    obtain ⟨rfl, rfl⟩ := Prod.mk.inj (Kr _ (Option.some.inj hF).symm)
    exact rt_MI C0 M hr dX10_about_153
  · have hF := oi_f hc hF
    refine lv_iconst (v := (-1 : Int32)) hx hb dX10_about_8 (by decide) ?_
    obtain ⟨rfl, rfl⟩ := Prod.mk.inj (Kr _ (Option.some.inj hF).symm)
    exact rt_MI C0 M hr dX10_about_9
set_option maxHeartbeats 4000000 in
set_option maxRecDepth 100000 in
theorem wX10_about_117 {p : Program} {l : Launch} {e : Env} {s : State} {m : MethodId} {args : Array Value} {below : List Frame} {meth : Method} {c : Code} {D : va_G} {cy : Nat → ClassId} (ad : Nat → Nat) (A : Nat → Prop) {S : MS} {S' : MS} {H : Heap} {locs : List Loc} {n0 : Nat} {r : Int32} {out : ((Nat × Int32 × Int32 × Int32 × MS) ⊕ (Int32 × MS))} {ls : Array Slot} {x0 : Nat} {x1 : Int32} {x4 : Int32} {z0 : Int32} {z1 : Int32} (C0 : CX p s m args meth c RX10 cX10_about 5 D cy) (M : ST D cy ad A s.heap (ZN n0 s.heap.size) S H locs) (hr : meth.sig.returnType = some .int) (hF : bX10_about_117 S x0 x1 x4 z0 z1 = some out) (hl : lv_has ls 5 [(0, .ref (ad x0)), (1, .int x1), (4, .int x4)]) (Kr : ∀ r9, out = .inr r9 → r9 = (r, S')) (Kh0 : ∀ (y0 : Nat) (y1 : Int32) (y2 : Int32) (y3 : Int32) (S2 : MS), out = .inl (y0, y1, y2, y3, S2) → ∀ (H1 : Heap) (locs1 : List Loc) (ls1 : Array Slot), ST D cy ad A s.heap (ZN n0 s.heap.size) S2 H1 locs1 → lv_has ls1 5 [(0, .ref (ad y0)), (1, .int y1), (3, .int y2), (4, .int y3)] → W p l e rmX10_about s m args below meth c H1 locs1 0 0 (MQ below (QcM D cy ad A n0 S' (some (.int r))) args s 0 0 A) (F0 m 91 ls1 [])) : W p l e rmX10_about s m args below meth c H locs 0 0 (MQ below (QcM D cy ad A n0 S' (some (.int r))) args s 0 0 A) (F0 m 117 ls [.int z1, .int z0]) := by
  unfold bX10_about_117 at hF
  obtain ⟨hx, hb, -, hown, -, hts, -⟩ := id C0
  refine lv_iadd hx hb dX10_about_117 ?_
  obtain ⟨v118, hv, hF⟩ := ob hF
  have hv := vtI hv
  refine vtopi hv ?_
  refine lv_istore_n (lv' := [(3, .int v118), (0, .ref (ad x0)), (1, .int x1), (4, .int x4)]) hx hb dX10_about_118 rfl hl (by decide) rfl (fun ls hl => ?_)
  obtain ⟨v119, hv, hF⟩ := ob hF
  refine lv_iinc (v := v119) (lv' := [(4, .int v119), (3, .int v118), (0, .ref (ad x0)), (1, .int x1)]) hx hb dX10_about_119 hl (k := 3) rfl (by rw [← vtI hv]; rfl) (by decide) rfl (fun ls hl => ?_)
  refine lv_goto (tgt := 91) hx hb dX10_about_122 (by decide) ?_
  exact Kh0 _ _ _ _ _ (Option.some.inj hF).symm _ _ _ M (lv_sub hl [2, 3, 1, 0] rfl)
set_option maxHeartbeats 4000000 in
set_option maxRecDepth 100000 in
theorem wX10_about_91 {p : Program} {l : Launch} {e : Env} {s : State} {m : MethodId} {args : Array Value} {below : List Frame} {meth : Method} {c : Code} {D : va_G} {cy : Nat → ClassId} (ad : Nat → Nat) (A : Nat → Prop) {S : MS} {S' : MS} {H : Heap} {locs : List Loc} {n0 : Nat} {r : Int32} {out : ((Nat × Int32 × Int32 × Int32 × MS) ⊕ (Int32 × MS))} {ls : Array Slot} {x0 : Nat} {x1 : Int32} {x3 : Int32} {x4 : Int32} (C0 : CX p s m args meth c RX10 cX10_about 5 D cy) (M : ST D cy ad A s.heap (ZN n0 s.heap.size) S H locs) (hr : meth.sig.returnType = some .int) (hF : bX10_about_91 S x0 x1 x3 x4 = some out) (hl : lv_has ls 5 [(0, .ref (ad x0)), (1, .int x1), (3, .int x3), (4, .int x4)]) (Kr : ∀ r9, out = .inr r9 → r9 = (r, S')) (Kh0 : ∀ (y0 : Nat) (y1 : Int32) (y2 : Int32) (y3 : Int32) (S2 : MS), out = .inl (y0, y1, y2, y3, S2) → ∀ (H1 : Heap) (locs1 : List Loc) (ls1 : Array Slot), ST D cy ad A s.heap (ZN n0 s.heap.size) S2 H1 locs1 → lv_has ls1 5 [(0, .ref (ad y0)), (1, .int y1), (3, .int y2), (4, .int y3)] → W p l e rmX10_about s m args below meth c H1 locs1 0 0 (MQ below (QcM D cy ad A n0 S' (some (.int r))) args s 0 0 A) (F0 m 91 ls1 [])) : W p l e rmX10_about s m args below meth c H locs 0 0 (MQ below (QcM D cy ad A n0 S' (some (.int r))) args s 0 0 A) (F0 m 91 ls []) := by
  unfold bX10_about_91 at hF
  obtain ⟨hx, hb, -, hown, -, hts, -⟩ := id C0
  refine lv_iload hx hb dX10_about_91 (lv_at hl 3 rfl) ?_
  refine lv_aload_n hx hb dX10_about_93 rfl (lv_at hl 0 rfl) ?_
  obtain ⟨v94, hv, hF⟩ := ob hF
  refine k_getI C0 M.1 hv fl_X10_201 dX10_about_94 ?_
  refine lv_icmp_ge (tgt := 125) hx hb dX10_about_97 (by decide) (fun hc => ?_) (fun hc => ?_)
  · have hF := oi_t hc hF
    refine lv_iload_n hx hb dX10_about_125 rfl (lv_at hl 2 rfl) ?_
    obtain ⟨rfl, rfl⟩ := Prod.mk.inj (Kr _ (Option.some.inj hF).symm)
    exact rt_MI C0 M hr dX10_about_126
  · have hF := oi_f hc hF
    refine lv_iload_n hx hb dX10_about_100 rfl (lv_at hl 2 rfl) ?_
    refine lv_aload_n hx hb dX10_about_101 rfl (lv_at hl 0 rfl) ?_
    obtain ⟨v102, hv, hF⟩ := ob hF
    refine k_getP C0 M.1 hv fl_X10_28 dX10_about_102 ?_
    refine lv_iload hx hb dX10_about_105 (lv_at hl 3 rfl) ?_
    obtain ⟨v107, hv, hF⟩ := ob hF
    refine k_ld C0 M.1 hv dX10_about_107 ?_
    refine lv_iload_n hx hb dX10_about_108 rfl (lv_at hl 1 rfl) ?_
    refine lv_icmp_ne (tgt := 116) hx hb dX10_about_109 (by decide) (fun hc => ?_) (fun hc => ?_)
    · have hF := oi_f hc hF
      refine lv_iconst (v := (0 : Int32)) hx hb dX10_about_116 (by decide) ?_
      exact wX10_about_117 ad A C0 M hr hF (lv_sub hl [0, 1, 3] rfl) Kr Kh0
    · have hF := oi_t hc hF
      refine lv_iconst (v := (1 : Int32)) hx hb dX10_about_112 (by decide) ?_
      refine lv_goto (tgt := 117) hx hb dX10_about_113 (by decide) ?_
      exact wX10_about_117 ad A C0 M hr hF (lv_sub hl [0, 1, 3] rfl) Kr Kh0
set_option maxHeartbeats 4000000 in
set_option maxRecDepth 100000 in
theorem tX10_about (l : Launch) (D : va_G) (cy : Nat → ClassId) (ad : Nat → Nat) (A : Nat → Prop) {S S' : MS} {a0 : Nat} {a1 : Int32} {a2 : Int32} {r : Int32} (h : fX10_about S a0 a1 a2 = some (r, S')) : Met l yX10_about [Cond.code yX10_about cX10_about 5 (some .int)] rmX10_about (PcR D cy ad A S [.ref (ad a0), .int a1, .int a2]) (QcM D cy ad A (m_n S) S' (some (.int r))) 0 0 A := by
  refine met_M (by decide +kernel) cw_X10_about (Nat.le_of_ble_eq_true rfl) ?_
  intro p e s m args below meth c ls C0 M hr hin hl
  have hl : lv_has ls 5 [(0, .ref (ad a0)), (1, .int a1), (2, .int a2)] := hl
  have key := lim_walk (step := sX10_about) (fun (q : (Nat × Int32 × Int32 × Int32 × MS)) (r9 : (Int32 × MS)) => ∀ (r : Int32) (S' : MS), r9 = (r, S') → ((∀ (y0 : Nat) (y1 : Int32) (y2 : Int32) (y3 : Int32) (S2 : MS), q = (y0, y1, y2, y3, S2) → ∀ (H1 : Heap) (locs1 : List Loc) (ls1 : Array Slot), ST D cy ad A s.heap (ZN (m_n S) s.heap.size) S2 H1 locs1 → lv_has ls1 5 [(0, .ref (ad y0)), (1, .int y1), (3, .int y2), (4, .int y3)] → W p l e rmX10_about s m args below meth c H1 locs1 0 0 (MQ below (QcM D cy ad A (m_n S) S' (some (.int r))) args s 0 0 A) (F0 m 91 ls1 [])))) ?_
  · unfold fX10_about at h
    cases hs0 : bX10_about_0 S a0 a1 a2 with
    | none => rw [hs0] at h; cases h
    | some out =>
      rw [hs0] at h
      refine wX10_about_0 ad A C0 M hr hs0 hl (fun r9 hr9 => ?_) ?_
      · subst hr9; exact Option.some.inj h
      · intro y0 y1 y2 y3 y4 hq; subst hq; exact (key _ _ h _ _ rfl) _ _ _ _ _ rfl
  · intro q r9 out hst hre hin9
    intro r S' er; subst er
    refine ?_
    · intro y0 y1 y2 y3 y4 hq H1 locs1 ls1 M hl
      subst hq
      exact wX10_about_91 ad A C0 M hr hst hl hre (fun k0 k1 k2 k3 k4 hk => (hin9 _ hk _ _ rfl) _ _ _ _ _ rfl)
