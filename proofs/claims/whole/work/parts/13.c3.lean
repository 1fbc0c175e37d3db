theorem cb_X0_124 : CBV RX0 124 yX0_compare cX0_compare 6 (none) 3 1 := ⟨⟨cw_X0_compare, ini_ChartRoom_Chart, by decide, (uw_of 915 (by decide +kernel) rfl)⟩, (uw_of 903 (by decide +kernel) rfl), (uw_of 904 (by decide +kernel) rfl), by decide, TX0, 10, rfl⟩
theorem cw_X0_bestDrift : Cond.code yX0_bestDrift cX0_bestDrift 11 (some .int) ∈ UW := (uw_of 914 (by decide +kernel) rfl)
theorem cb_X9_319 : CBV RX9 319 yX0_bestDrift cX0_bestDrift 11 (some .int) 2 1 := ⟨⟨cw_X0_bestDrift, ini_ChartRoom_Chart, by decide, (uw_of 911 (by decide +kernel) rfl)⟩, (uw_of 912 (by decide +kernel) rfl), (uw_of 913 (by decide +kernel) rfl), by decide, TX0, 10, rfl⟩
theorem cw_X9_drift : Cond.code yX9_drift cX9_drift 4 (some .int) ∈ UW := (uw_of 910 (by decide +kernel) rfl)
theorem cw_X9_fault : Cond.code yX9_fault cX9_fault 1 (some .int) ∈ UW := (uw_of 1056 (by decide +kernel) rfl)
theorem fl_X2_9 : FL RX2 9 3 0 0 .int 0 := ⟨RX2, "ChartRoom$Forecast", TX2, 6, tyX2, rfl, iu_3, tyX2_ok, nmX2, by decide, rfl, by decide, (uw_of 926 (by decide +kernel) rfl), Or.inl rfl, tyX2_ok 0 (by decide), (fun _ => rfl), (fun h => by cases h), rfl⟩
theorem fl_X2_15 : FL RX2 15 3 1 2 (.array .int) 1 := ⟨RX2, "ChartRoom$Forecast", TX2, 6, tyX2, rfl, iu_3, tyX2_ok, nmX2, by decide, rfl, by decide, (uw_of 928 (by decide +kernel) rfl), Or.inl rfl, tyX2_ok 1 (by decide), (fun h => by cases h), (fun _ => ⟨rfl, rfl⟩), rfl⟩
theorem fl_X2_19 : FL RX2 19 3 2 2 (.array .int) 1 := ⟨RX2, "ChartRoom$Forecast", TX2, 6, tyX2, rfl, iu_3, tyX2_ok, nmX2, by decide, rfl, by decide, (uw_of 929 (by decide +kernel) rfl), Or.inl rfl, tyX2_ok 2 (by decide), (fun h => by cases h), (fun _ => ⟨rfl, rfl⟩), rfl⟩
theorem fl_X2_22 : FL RX2 22 3 3 2 (.array .int) 1 := ⟨RX2, "ChartRoom$Forecast", TX2, 6, tyX2, rfl, iu_3, tyX2_ok, nmX2, by decide, rfl, by decide, (uw_of 930 (by decide +kernel) rfl), Or.inl rfl, tyX2_ok 3 (by decide), (fun h => by cases h), (fun _ => ⟨rfl, rfl⟩), rfl⟩
theorem fl_X2_25 : FL RX2 25 3 4 0 .int 0 := ⟨RX2, "ChartRoom$Forecast", TX2, 6, tyX2, rfl, iu_3, tyX2_ok, nmX2, by decide, rfl, by decide, (uw_of 931 (by decide +kernel) rfl), Or.inl rfl, tyX2_ok 4 (by decide), (fun _ => rfl), (fun h => by cases h), rfl⟩
theorem fl_X2_28 : FL RX2 28 3 5 0 .int 0 := ⟨RX2, "ChartRoom$Forecast", TX2, 6, tyX2, rfl, iu_3, tyX2_ok, nmX2, by decide, rfl, by decide, (uw_of 932 (by decide +kernel) rfl), Or.inl rfl, tyX2_ok 5 (by decide), (fun _ => rfl), (fun h => by cases h), rfl⟩
theorem cw_X2_init : Cond.code yX2_init cX2_init 1 (none) ∈ UW := (uw_of 924 (by decide +kernel) rfl)
theorem cw_X2_takesComma : Cond.code yX2_takesComma cX2_takesComma 1 (some .boolean) ∈ UW := (uw_of 965 (by decide +kernel) rfl)
theorem cb_X2_48 : CNS RX2 48 yX9_isWithin "ChartRoom" cX9_isWithin 3 (some .boolean) 3 := ⟨⟨cw_X9_isWithin, ini_ChartRoom, by decide, (uw_of 970 (by decide +kernel) rfl)⟩, (uw_of 339 (by decide +kernel) rfl)⟩
theorem cw_X2_takesDigit : Cond.code yX2_takesDigit cX2_takesDigit 2 (some .boolean) ∈ UW := (uw_of 969 (by decide +kernel) rfl)
theorem cw_X2_takesRegion : Cond.code yX2_takesRegion cX2_takesRegion 3 (some .boolean) ∈ UW := (uw_of 957 (by decide +kernel) rfl)
theorem cw_X2_takesSign : Cond.code yX2_takesSign cX2_takesSign 2 (some .boolean) ∈ UW := (uw_of 961 (by decide +kernel) rfl)
theorem ini_ChartRoom_Forecast : Cond.initialized "ChartRoom$Forecast" ∈ UW := (uw_of 104 (by decide +kernel) rfl)
theorem cb_X2_35 : CBV RX2 35 yX2_takesRegion cX2_takesRegion 3 (some .boolean) 1 3 := ⟨⟨cw_X2_takesRegion, ini_ChartRoom_Forecast, by decide, (uw_of 954 (by decide +kernel) rfl)⟩, (uw_of 956 (by decide +kernel) rfl), (uw_of 29 (by decide +kernel) rfl), by decide, TX2, 6, rfl⟩
theorem cb_X2_38 : CBV RX2 38 yX2_takesSign cX2_takesSign 2 (some .boolean) 1 3 := ⟨⟨cw_X2_takesSign, ini_ChartRoom_Forecast, by decide, (uw_of 958 (by decide +kernel) rfl)⟩, (uw_of 960 (by decide +kernel) rfl), (uw_of 30 (by decide +kernel) rfl), by decide, TX2, 6, rfl⟩
theorem cb_X2_45 : CBV RX2 45 yX2_takesDigit cX2_takesDigit 2 (some .boolean) 1 3 := ⟨⟨cw_X2_takesDigit, ini_ChartRoom_Forecast, by decide, (uw_of 966 (by decide +kernel) rfl)⟩, (uw_of 968 (by decide +kernel) rfl), (uw_of 32 (by decide +kernel) rfl), by decide, TX2, 6, rfl⟩
theorem cb_X2_41 : CBV RX2 41 yX2_takesComma cX2_takesComma 1 (some .boolean) 0 3 := ⟨⟨cw_X2_takesComma, ini_ChartRoom_Forecast, by decide, (uw_of 962 (by decide +kernel) rfl)⟩, (uw_of 964 (by decide +kernel) rfl), (uw_of 31 (by decide +kernel) rfl), by decide, TX2, 6, rfl⟩
theorem cw_X2_takes : Cond.code yX2_takes cX2_takes 2 (some .boolean) ∈ UW := (uw_of 953 (by decide +kernel) rfl)
theorem cb_X2_31 : CBV RX2 31 yX2_takes cX2_takes 2 (some .boolean) 1 3 := ⟨⟨cw_X2_takes, ini_ChartRoom_Forecast, by decide, (uw_of 950 (by decide +kernel) rfl)⟩, (uw_of 952 (by decide +kernel) rfl), (uw_of 28 (by decide +kernel) rfl), by decide, TX2, 6, rfl⟩
theorem cw_X2_firstFaultOf : Cond.code yX2_firstFaultOf cX2_firstFaultOf 5 (some .int) ∈ UW := (uw_of 949 (by decide +kernel) rfl)
theorem nw_X9_323 : NWF RX9 323 3 6 := ⟨RX2, TX2, tyX2, rfl, iu_3, tyX2_ok, rfl, by decide, (uw_of 920 (by decide +kernel) rfl), (uw_of 921 (by decide +kernel) rfl), (uw_of 104 (by decide +kernel) rfl), by decide⟩
theorem cb_X9_325 : CNI RX9 325 yX2_init "ChartRoom" cX2_init 1 0 := ⟨⟨cw_X2_init, ini_ChartRoom_Forecast, by decide, (uw_of 922 (by decide +kernel) rfl)⟩, (uw_of 923 (by decide +kernel) rfl), rfl⟩
theorem cb_X9_326 : CBV RX9 326 yX2_firstFaultOf cX2_firstFaultOf 5 (some .int) 3 3 := ⟨⟨cw_X2_firstFaultOf, ini_ChartRoom_Forecast, by decide, (uw_of 946 (by decide +kernel) rfl)⟩, (uw_of 947 (by decide +kernel) rfl), (uw_of 948 (by decide +kernel) rfl), by decide, TX2, 6, rfl⟩
theorem fl_X9_62 : FL RX9 62 10 9 2 (.object "java/util/ArrayList") 1 := ⟨RX9, "ChartRoom", TX9, 13, tyX9, rfl, iu_10, tyX9_ok, nmX9, by decide, rfl, by decide, (uw_of 297 (by decide +kernel) rfl), Or.inl rfl, tyX9_ok 9 (by decide), (fun h => by cases h), (fun _ => ⟨rfl, rfl⟩), rfl⟩
theorem cw_X9_forecast : Cond.code yX9_forecast cX9_forecast 8 (some .int) ∈ UW := (uw_of 919 (by decide +kernel) rfl)
theorem cw_X4_costWith : Cond.code yX4_costWith cX4_costWith 4 (some .int) ∈ UW := (uw_of 858 (by decide +kernel) rfl)
theorem cb_X4_78 : CNS RX4 78 yX9_isIn "ChartRoom" cX9_isIn 2 (some .boolean) 2 := ⟨⟨cw_X9_isIn, ini_ChartRoom, by decide, (uw_of 854 (by decide +kernel) rfl)⟩, (uw_of 533 (by decide +kernel) rfl)⟩
theorem ini_ChartRoom_Matching : Cond.initialized "ChartRoom$Matching" ∈ UW := (uw_of 91 (by decide +kernel) rfl)
theorem cb_X4_82 : CBV RX4 82 yX4_costWith cX4_costWith 4 (some .int) 3 5 := ⟨⟨cw_X4_costWith, ini_ChartRoom_Matching, by decide, (uw_of 855 (by decide +kernel) rfl)⟩, (uw_of 857 (by decide +kernel) rfl), (uw_of 25 (by decide +kernel) rfl), by decide, TX4, 3, rfl⟩
theorem cb_X4_66 : CBS RX4 66 yJ9_min_7cf53 cJ9_min_7cf53 2 (some .int) 2 := ⟨⟨cw_J9_min_7cf53, ini_java_lang_Math, by decide, (uw_of 847 (by decide +kernel) rfl)⟩, (uw_of 427 (by decide +kernel) rfl)⟩
theorem cw_X4_leastCost : Cond.code yX4_leastCost cX4_leastCost 6 (some .int) ∈ UW := (uw_of 853 (by decide +kernel) rfl)
theorem fl_X4_53 : FL RX4 53 4 1 0 .int 2 := ⟨RX3, "ChartRoom$Front", TX3, 5, tyX3, rfl, iu_4, tyX3_ok, nmX3, by decide, rfl, by decide, (uw_of 806 (by decide +kernel) rfl), Or.inl rfl, tyX3_ok 1 (by decide), (fun h => by cases h), (fun h => by cases h), rfl⟩
theorem cb_X4_57 : CBS RX4 57 yJ9_max_7cf53 cJ9_max_7cf53 2 (some .int) 2 := ⟨⟨cw_J9_max_7cf53, ini_java_lang_Math, by decide, (uw_of 846 (by decide +kernel) rfl)⟩, (uw_of 395 (by decide +kernel) rfl)⟩
theorem fl_X4_63 : FL RX4 63 4 2 0 .int 2 := ⟨RX3, "ChartRoom$Front", TX3, 5, tyX3, rfl, iu_4, tyX3_ok, nmX3, by decide, rfl, by decide, (uw_of 809 (by decide +kernel) rfl), Or.inl rfl, tyX3_ok 2 (by decide), (fun h => by cases h), (fun h => by cases h), rfl⟩
theorem fl_X4_69 : FL RX4 69 4 0 0 .int 2 := ⟨RX3, "ChartRoom$Front", TX3, 5, tyX3, rfl, iu_4, tyX3_ok, nmX3, by decide, rfl, by decide, (uw_of 803 (by decide +kernel) rfl), Or.inl rfl, tyX3_ok 0 (by decide), (fun h => by cases h), (fun h => by cases h), rfl⟩
theorem fl_X4_72 : FL RX4 72 4 4 2 (.array .int) 2 := ⟨RX3, "ChartRoom$Front", TX3, 5, tyX3, rfl, iu_4, tyX3_ok, nmX3, by decide, rfl, by decide, (uw_of 814 (by decide +kernel) rfl), Or.inl rfl, tyX3_ok 4 (by decide), (fun h => by cases h), (fun h => by cases h), rfl⟩
theorem cb_X4_75 : CBS RX4 75 yJ9_abs_0f7a4 cJ9_abs_0f7a4 1 (some .int) 1 := ⟨⟨cw_J9_abs_0f7a4, ini_java_lang_Math, by decide, (uw_of 848 (by decide +kernel) rfl)⟩, (uw_of 545 (by decide +kernel) rfl)⟩
theorem cw_X4_pairCost : Cond.code yX4_pairCost cX4_pairCost 6 (some .int) ∈ UW := (uw_of 845 (by decide +kernel) rfl)
theorem cw_X4_firstPartner : Cond.code yX4_firstPartner cX4_firstPartner 5 (some .int) ∈ UW := (uw_of 866 (by decide +kernel) rfl)
theorem cb_X4_85 : CBV RX4 85 yX4_firstPartner cX4_firstPartner 5 (some .int) 3 5 := ⟨⟨cw_X4_firstPartner, ini_ChartRoom_Matching, by decide, (uw_of 863 (by decide +kernel) rfl)⟩, (uw_of 865 (by decide +kernel) rfl), (uw_of 27 (by decide +kernel) rfl), by decide, TX4, 3, rfl⟩
theorem cw_X4_setPartners : Cond.code yX4_setPartners cX4_setPartners 5 (none) ∈ UW := (uw_of 862 (by decide +kernel) rfl)
theorem cb_X4_23 : CBV RX4 23 yJx4a65c_size_8abf5 cJx4a65c_size_8abf5 1 (some .int) 0 0 := ⟨⟨cw_Jx4a65c_size_8abf5, ini_java_util_ArrayList, by decide, (uw_of 840 (by decide +kernel) rfl)⟩, (uw_of 342 (by decide +kernel) rfl), (uw_of 343 (by decide +kernel) rfl), by decide, TJx4a65c, 3, rfl⟩
theorem cb_X4_29 : CBV RX4 29 yJx4a65c_get_915e3 cJx4a65c_get_915e3 2 ((some (.object "java/lang/Object"))) 1 0 := ⟨⟨cw_Jx4a65c_get_915e3, ini_java_util_ArrayList, by decide, (uw_of 841 (by decide +kernel) rfl)⟩, (uw_of 444 (by decide +kernel) rfl), (uw_of 445 (by decide +kernel) rfl), by decide, TJx4a65c, 3, rfl⟩
theorem cb_X4_35 : CBS RX4 35 yX4_pairCost cX4_pairCost 6 (some .int) 2 := ⟨⟨cw_X4_pairCost, ini_ChartRoom_Matching, by decide, (uw_of 843 (by decide +kernel) rfl)⟩, (uw_of 844 (by decide +kernel) rfl)⟩
theorem cb_X4_39 : CBS RX4 39 yJ6_bitCount_0f7a4 cJ6_bitCount_0f7a4 1 (some .int) 1 := ⟨⟨cw_J6_bitCount_0f7a4, ini_java_lang_Integer, by decide, (uw_of 849 (by decide +kernel) rfl)⟩, (uw_of 563 (by decide +kernel) rfl)⟩
theorem cb_X4_49 : CBV RX4 49 yX4_setPartners cX4_setPartners 5 (none) 2 5 := ⟨⟨cw_X4_setPartners, ini_ChartRoom_Matching, by decide, (uw_of 859 (by decide +kernel) rfl)⟩, (uw_of 861 (by decide +kernel) rfl), (uw_of 26 (by decide +kernel) rfl), by decide, TX4, 3, rfl⟩
theorem cb_X4_45 : CBV RX4 45 yX4_leastCost cX4_leastCost 6 (some .int) 3 5 := ⟨⟨cw_X4_leastCost, ini_ChartRoom_Matching, by decide, (uw_of 850 (by decide +kernel) rfl)⟩, (uw_of 852 (by decide +kernel) rfl), (uw_of 24 (by decide +kernel) rfl), by decide, TX4, 3, rfl⟩
theorem cw_X4_match : Cond.code yX4_match cX4_match 7 (some .int) ∈ UW := (uw_of 839 (by decide +kernel) rfl)
theorem fl_X9_49 : FL RX9 49 10 6 2 (.object "ChartRoom$Matching") 1 := ⟨RX9, "ChartRoom", TX9, 13, tyX9, rfl, iu_10, tyX9_ok, nmX9, by decide, rfl, by decide, (uw_of 294 (by decide +kernel) rfl), Or.inl rfl, tyX9_ok 6 (by decide), (fun h => by cases h), (fun _ => ⟨rfl, rfl⟩), rfl⟩
theorem cb_X9_287 : CBV RX9 287 yX4_match cX4_match 7 (some .int) 2 5 := ⟨⟨cw_X4_match, ini_ChartRoom_Matching, by decide, (uw_of 836 (by decide +kernel) rfl)⟩, (uw_of 837 (by decide +kernel) rfl), (uw_of 838 (by decide +kernel) rfl), by decide, TX4, 3, rfl⟩
theorem fl_X9_382 : FL RX9 382 5 2 2 (.array .int) 2 := ⟨RX4, "ChartRoom$Matching", TX4, 3, tyX4, rfl, iu_5, tyX4_ok, nmX4, by decide, rfl, by decide, (uw_of 260 (by decide +kernel) rfl), Or.inl rfl, tyX4_ok 2 (by decide), (fun h => by cases h), (fun h => by cases h), rfl⟩
theorem cw_X9_partnerOf : Cond.code yX9_partnerOf cX9_partnerOf 4 (some .int) ∈ UW := (uw_of 835 (by decide +kernel) rfl)
theorem fl_X9_271 : FL RX9 271 4 0 0 .int 2 := ⟨RX3, "ChartRoom$Front", TX3, 5, tyX3, rfl, iu_4, tyX3_ok, nmX3, by decide, rfl, by decide, (uw_of 804 (by decide +kernel) rfl), Or.inl rfl, tyX3_ok 0 (by decide), (fun h => by cases h), (fun h => by cases h), rfl⟩
theorem fl_X9_272 : FL RX9 272 4 1 0 .int 2 := ⟨RX3, "ChartRoom$Front", TX3, 5, tyX3, rfl, iu_4, tyX3_ok, nmX3, by decide, rfl, by decide, (uw_of 807 (by decide +kernel) rfl), Or.inl rfl, tyX3_ok 1 (by decide), (fun h => by cases h), (fun h => by cases h), rfl⟩
theorem fl_X9_275 : FL RX9 275 4 2 0 .int 2 := ⟨RX3, "ChartRoom$Front", TX3, 5, tyX3, rfl, iu_4, tyX3_ok, nmX3, by decide, rfl, by decide, (uw_of 810 (by decide +kernel) rfl), Or.inl rfl, tyX3_ok 2 (by decide), (fun h => by cases h), (fun h => by cases h), rfl⟩
theorem fl_X9_278 : FL RX9 278 4 3 0 .int 2 := ⟨RX3, "ChartRoom$Front", TX3, 5, tyX3, rfl, iu_4, tyX3_ok, nmX3, by decide, rfl, by decide, (uw_of 812 (by decide +kernel) rfl), Or.inl rfl, tyX3_ok 3 (by decide), (fun h => by cases h), (fun h => by cases h), rfl⟩
theorem cb_X9_281 : CBV RX9 281 yX9_partnerOf cX9_partnerOf 4 (some .int) 2 10 := ⟨⟨cw_X9_partnerOf, ini_ChartRoom, by decide, (uw_of 832 (by decide +kernel) rfl)⟩, (uw_of 834 (by decide +kernel) rfl), (uw_of 23 (by decide +kernel) rfl), by decide, TX9, 13, rfl⟩
theorem cw_X9_front : Cond.code yX9_front cX9_front 5 (some .int) ∈ UW := (uw_of 830 (by decide +kernel) rfl)
theorem fl_X9_213 : FL RX9 213 2 4 2 (.array .int) 2 := ⟨RX1, "ChartRoom$Desk", TX1, 9, tyX1, rfl, iu_2, tyX1_ok, nmX1, by decide, rfl, by decide, (uw_of 157 (by decide +kernel) rfl), Or.inl rfl, tyX1_ok 4 (by decide), (fun h => by cases h), (fun h => by cases h), rfl⟩
theorem fl_X9_182 : FL RX9 182 9 0 0 .int 2 := ⟨RX8, "ChartRoom$Wire", TX8, 6, tyX8, rfl, iu_9, tyX8_ok, nmX8, by decide, rfl, by decide, (uw_of 630 (by decide +kernel) rfl), Or.inl rfl, tyX8_ok 0 (by decide), (fun h => by cases h), (fun h => by cases h), rfl⟩
theorem cb_X9_216 : CBV RX9 216 yX1_guessFor cX1_guessFor 7 (some .int) 1 2 := ⟨⟨cw_X1_guessFor, ini_ChartRoom_Desk, by decide, (uw_of 686 (by decide +kernel) rfl)⟩, (uw_of 525 (by decide +kernel) rfl), (uw_of 526 (by decide +kernel) rfl), by decide, TX1, 9, rfl⟩
theorem cw_X9_guess : Cond.code yX9_guess cX9_guess 3 (some .int) ∈ UW := (uw_of 685 (by decide +kernel) rfl)
theorem fl_X9_72 : FL RX9 72 10 11 0 .int 0 := ⟨RX9, "ChartRoom", TX9, 13, tyX9, rfl, iu_10, tyX9_ok, nmX9, by decide, rfl, by decide, (uw_of 299 (by decide +kernel) rfl), Or.inl rfl, tyX9_ok 11 (by decide), (fun _ => rfl), (fun h => by cases h), rfl⟩
theorem cw_X9_leaveInTrace : Cond.code yX9_leaveInTrace cX9_leaveInTrace 2 (none) ∈ UW := (uw_of 1032 (by decide +kernel) rfl)
theorem cb_X9_368 : CBV RX9 368 yX9_leaveInTrace cX9_leaveInTrace 2 (none) 1 10 := ⟨⟨cw_X9_leaveInTrace, ini_ChartRoom, by decide, (uw_of 1029 (by decide +kernel) rfl)⟩, (uw_of 1031 (by decide +kernel) rfl), (uw_of 35 (by decide +kernel) rfl), by decide, TX9, 13, rfl⟩
theorem cw_X9_hail : Cond.code yX9_hail cX9_hail 2 (some .int) ∈ UW := (uw_of 1044 (by decide +kernel) rfl)
theorem cw_X9_joining : Cond.code yX9_joining cX9_joining 1 (some .int) ∈ UW := (uw_of 874 (by decide +kernel) rfl)
theorem cw_X0_countValues : Cond.code yX0_countValues cX0_countValues 3 (some .int) ∈ UW := (uw_of 723 (by decide +kernel) rfl)
theorem fl_X9_232 : FL RX9 232 1 4 2 (.array .int) 2 := ⟨RX0, "ChartRoom$Chart", TX0, 10, tyX0, rfl, iu_1, tyX0_ok, nmX0, by decide, rfl, by decide, (uw_of 200 (by decide +kernel) rfl), Or.inl rfl, tyX0_ok 4 (by decide), (fun h => by cases h), (fun h => by cases h), rfl⟩
theorem cb_X9_235 : CBV RX9 235 yX0_countValues cX0_countValues 3 (some .int) 0 1 := ⟨⟨cw_X0_countValues, ini_ChartRoom_Chart, by decide, (uw_of 720 (by decide +kernel) rfl)⟩, (uw_of 721 (by decide +kernel) rfl), (uw_of 722 (by decide +kernel) rfl), by decide, TX0, 10, rfl⟩
theorem cw_X9_keep : Cond.code yX9_keep cX9_keep 3 (some .int) ∈ UW := (uw_of 895 (by decide +kernel) rfl)
abbrev rmX0_bestDrift : Room := { frames := 4, cells := 0, slots := 0, locals := 91 }
abbrev rmX9_drift : Room := { frames := 6, cells := 0, slots := 0, locals := 141 }
abbrev rmX9_fault : Room := { frames := 0, cells := 0, slots := 0, locals := 0 }
abbrev rmX2_init : Room := { frames := 1, cells := 3, slots := 15, locals := 20 }
abbrev rmX2_takesComma : Room := { frames := 0, cells := 0, slots := 0, locals := 0 }
abbrev rmX2_takesDigit : Room := { frames := 1, cells := 0, slots := 0, locals := 22 }
abbrev rmX2_takesRegion : Room := { frames := 0, cells := 0, slots := 0, locals := 0 }
abbrev rmX2_takesSign : Room := { frames := 0, cells := 0, slots := 0, locals := 0 }
abbrev rmX2_takes : Room := { frames := 2, cells := 0, slots := 0, locals := 43 }
abbrev rmX2_firstFaultOf : Room := { frames := 3, cells := 0, slots := 0, locals := 64 }
abbrev rmX9_forecast : Room := { frames := 8, cells := 5, slots := 61, locals := 228 }
abbrev rmX4_costWith : Room := { frames := 0, cells := 0, slots := 0, locals := 0 }
abbrev rmX4_leastCost : Room := { frames := 1, cells := 0, slots := 0, locals := 23 }
abbrev rmX4_pairCost : Room := { frames := 1, cells := 0, slots := 0, locals := 21 }
abbrev rmX4_firstPartner : Room := { frames := 1, cells := 0, slots := 0, locals := 23 }
abbrev rmX4_setPartners : Room := { frames := 2, cells := 0, slots := 0, locals := 47 }
abbrev rmX4_match : Room := { frames := 3, cells := 0, slots := 0, locals := 71 }
abbrev rmX9_partnerOf : Room := { frames := 4, cells := 0, slots := 0, locals := 97 }
abbrev rmX9_front : Room := { frames := 5, cells := 0, slots := 0, locals := 120 }
abbrev rmX9_guess : Room := { frames := 3, cells := 0, slots := 0, locals := 75 }
abbrev rmX9_leaveInTrace : Room := { frames := 0, cells := 0, slots := 0, locals := 0 }
abbrev rmX9_hail : Room := { frames := 3, cells := 0, slots := 0, locals := 64 }
abbrev rmX9_joining : Room := { frames := 4, cells := 0, slots := 0, locals := 97 }
abbrev rmX0_countValues : Room := { frames := 0, cells := 0, slots := 0, locals := 0 }
abbrev rmX9_keep : Room := { frames := 6, cells := 0, slots := 0, locals := 141 }
noncomputable def bX0_bestDrift_0 (S : MS) (x0 : Nat) (x1 : Nat) (x2 : Int32) : Option (((Nat × Nat × Int32 × Int32 × Int64 × Int64 × Int32 × MS) ⊕ (Nat × Nat × Int32 × Int32 × Int64 × Int64 × Int32 × Int32 × MS)) ⊕ (Int32 × MS)) :=
  (some ((-x2))).bind fun v11 =>
  some (.inl (.inl (x0, x1, x2, (-9 : Int32), (0 : Int64), (0 : Int64), v11, S)))
noncomputable def bX0_bestDrift_13 (S : MS) (x0 : Nat) (x1 : Nat) (x2 : Int32) (x3 : Int32) (x4 : Int64) (x6 : Int64) (x8 : Int32) : Option (((Nat × Nat × Int32 × Int32 × Int64 × Int64 × Int32 × MS) ⊕ (Nat × Nat × Int32 × Int32 × Int64 × Int64 × Int32 × Int32 × MS)) ⊕ (Int32 × MS)) :=
  if x2 < x8 then
    some (.inr (x3, S))
  else
    (some ((-x2))).bind fun v21 =>
    some (.inl (.inr (x0, x1, x2, x3, x4, x6, x8, v21, S)))
noncomputable def bX0_bestDrift_112 (S : MS) (x0 : Nat) (x1 : Nat) (x2 : Int32) (x3 : Int32) (x4 : Int64) (x6 : Int64) (x8 : Int32) (x9 : Int32) : Option (((Nat × Nat × Int32 × Int32 × Int64 × Int64 × Int32 × MS) ⊕ (Nat × Nat × Int32 × Int32 × Int64 × Int64 × Int32 × Int32 × MS)) ⊕ (Int32 × MS)) :=
  (some (x9 + 1)).bind fun v112 =>
  some (.inl (.inr (x0, x1, x2, x3, x4, x6, x8, v112, S)))
noncomputable def bX0_bestDrift_69 (S : MS) (x0 : Nat) (x1 : Nat) (x2 : Int32) (x3 : Int32) (x4 : Int64) (x6 : Int64) (x8 : Int32) (x9 : Int32) (z0 : Int32) : Option (((Nat × Nat × Int32 × Int32 × Int64 × Int64 × Int32 × MS) ⊕ (Nat × Nat × Int32 × Int32 × Int64 × Int64 × Int32 × Int32 × MS)) ⊕ (Int32 × MS)) :=
  (o_gI S x0 1 5).bind fun v72 =>
  if v72 ≤ 0 then
    bX0_bestDrift_112 S x0 x1 x2 x3 x4 x6 x8 x9
  else
    if z0 = 0 then
      bX0_bestDrift_112 S x0 x1 x2 x3 x4 x6 x8 x9
    else
      (some (((((100 : Int32) * (x8 + (11 : Int32))) + x9) + (11 : Int32)))).bind fun v97 =>
      (o_gI S x0 1 6).bind fun v99 =>
      (some ((v99.toInt64))).bind fun v103 =>
      (o_gI S x0 1 5).bind fun v106 =>
      (some ((v106.toInt64))).bind fun v110 =>
      bX0_bestDrift_112 S x0 x1 x2 v97 v103 v110 x8 x9
noncomputable def bX0_bestDrift_64 (S : MS) (x0 : Nat) (x1 : Nat) (x2 : Int32) (x3 : Int32) (x4 : Int64) (x6 : Int64) (x8 : Int32) (x9 : Int32) : Option (((Nat × Nat × Int32 × Int32 × Int64 × Int64 × Int32 × MS) ⊕ (Nat × Nat × Int32 × Int32 × Int64 × Int64 × Int32 × Int32 × MS)) ⊕ (Int32 × MS)) :=
  bX0_bestDrift_69 S x0 x1 x2 x3 x4 x6 x8 x9 (1 : Int32)
noncomputable def bX0_bestDrift_23 (S : MS) (x0 : Nat) (x1 : Nat) (x2 : Int32) (x3 : Int32) (x4 : Int64) (x6 : Int64) (x8 : Int32) (x9 : Int32) : Option (((Nat × Nat × Int32 × Int32 × Int64 × Int64 × Int32 × MS) ⊕ (Nat × Nat × Int32 × Int32 × Int64 × Int64 × Int32 × Int32 × MS)) ⊕ (Int32 × MS)) :=
  if x2 < x9 then
    (some (x8 + 1)).bind fun v118 =>
    some (.inl (.inl (x0, x1, x2, x3, x4, x6, v118, S)))
  else
    (o_is S x0 1).bind fun _ =>
    (fX0_compare S x0 x8 x9 x1).bind fun S35 =>
    if x3 = (-9 : Int32) then
      bX0_bestDrift_64 S35 x0 x1 x2 x3 x4 x6 x8 x9
    else
      (o_gI S35 x0 1 6).bind fun v45 =>
      (o_gI S35 x0 1 5).bind fun v55 =>
      if 0 ≤ (lg_cmp ((v45.toInt64) * x6) (x4 * (v55.toInt64))) then
        bX0_bestDrift_69 S35 x0 x1 x2 x3 x4 x6 x8 x9 (0 : Int32)
      else
        bX0_bestDrift_64 S35 x0 x1 x2 x3 x4 x6 x8 x9
noncomputable def sX0_bestDrift : ((Nat × Nat × Int32 × Int32 × Int64 × Int64 × Int32 × MS) ⊕ (Nat × Nat × Int32 × Int32 × Int64 × Int64 × Int32 × Int32 × MS)) → Option (((Nat × Nat × Int32 × Int32 × Int64 × Int64 × Int32 × MS) ⊕ (Nat × Nat × Int32 × Int32 × Int64 × Int64 × Int32 × Int32 × MS)) ⊕ (Int32 × MS)) := (Sum.elim (fun t => bX0_bestDrift_13 t.2.2.2.2.2.2.2 t.1 t.2.1 t.2.2.1 t.2.2.2.1 t.2.2.2.2.1 t.2.2.2.2.2.1 t.2.2.2.2.2.2.1) (fun t => bX0_bestDrift_23 t.2.2.2.2.2.2.2.2 t.1 t.2.1 t.2.2.1 t.2.2.2.1 t.2.2.2.2.1 t.2.2.2.2.2.1 t.2.2.2.2.2.2.1 t.2.2.2.2.2.2.2.1))
noncomputable def hX0_bestDrift_13 (S : MS) (x0 : Nat) (x1 : Nat) (x2 : Int32) (x3 : Int32) (x4 : Int64) (x6 : Int64) (x8 : Int32) : Option (Int32 × MS) := lim (sX0_bestDrift) (.inl (x0, x1, x2, x3, x4, x6, x8, S))
theorem qX0_bestDrift_13 (S : MS) (x0 : Nat) (x1 : Nat) (x2 : Int32) (x3 : Int32) (x4 : Int64) (x6 : Int64) (x8 : Int32) : hX0_bestDrift_13 S x0 x1 x2 x3 x4 x6 x8 = fin (sX0_bestDrift) (bX0_bestDrift_13 S x0 x1 x2 x3 x4 x6 x8) := lim_eq _ _
noncomputable def hX0_bestDrift_23 (S : MS) (x0 : Nat) (x1 : Nat) (x2 : Int32) (x3 : Int32) (x4 : Int64) (x6 : Int64) (x8 : Int32) (x9 : Int32) : Option (Int32 × MS) := lim (sX0_bestDrift) (.inr (x0, x1, x2, x3, x4, x6, x8, x9, S))
theorem qX0_bestDrift_23 (S : MS) (x0 : Nat) (x1 : Nat) (x2 : Int32) (x3 : Int32) (x4 : Int64) (x6 : Int64) (x8 : Int32) (x9 : Int32) : hX0_bestDrift_23 S x0 x1 x2 x3 x4 x6 x8 x9 = fin (sX0_bestDrift) (bX0_bestDrift_23 S x0 x1 x2 x3 x4 x6 x8 x9) := lim_eq _ _
noncomputable def fX0_bestDrift (S : MS) (a0 : Nat) (a1 : Nat) (a2 : Int32) : Option (Int32 × MS) := fin (sX0_bestDrift) (bX0_bestDrift_0 S a0 a1 a2)
noncomputable def bX9_drift_61 (S : MS) (z0 : Int32) : Option (Int32 × MS) :=
  some (z0, S)
noncomputable def bX9_drift_0 (S : MS) (x0 : Nat) (x1 : Int32) (x2 : Int32) : Option (Int32 × MS) :=
  (fX9_isBelow x1 (4 : Int32)).bind fun v2 =>
  if v2 = 0 then
    some ((-1 : Int32), S)
  else
    (fX9_isWithin x2 (0 : Int32) (4 : Int32)).bind fun v13 =>
    if v13 = 0 then
      some ((-2 : Int32), S)
    else
      (o_gP S x0 10 8).bind fun v23 =>
      (o_ld S v23 13 x1).bind fun v27 =>
      if v27 = 0 then
        some ((-3 : Int32), S)
      else
        (o_is S x0 10).bind fun _ =>
        b2 (fX9_settledChart S x0) fun v35 S35 =>
        (o_gP S35 x0 10 7).bind fun v39 =>
        (o_ldP S35 v39 16 x1).bind fun v43 =>
        (o_is S35 v35 1).bind fun _ =>
        b2 (fX0_bestDrift S35 v35 v43 x2) fun v45 S45 =>
        if v45 = (-9 : Int32) then
          bX9_drift_61 S45 (-3 : Int32)
        else
          bX9_drift_61 S45 v45
noncomputable def fX9_drift (S : MS) (a0 : Nat) (a1 : Int32) (a2 : Int32) : Option (Int32 × MS) := bX9_drift_0 S a0 a1 a2
noncomputable def bX9_fault_0 (S : MS) (x0 : Nat) : Option Int32 :=
  (o_gI S x0 10 12).bind fun v1 =>
  some v1
noncomputable def fX9_fault (S : MS) (a0 : Nat) : Option Int32 := bX9_fault_0 S a0
noncomputable def bX2_init_0 (S : MS) (x0 : Nat) : Option MS :=
  (o_sI S x0 3 0 (0 : Int32)).bind fun S6 =>
  (o_le 5 (5 : Int32)).bind fun n11 =>
  (some (m_n S6 + 1)).bind fun o11 =>
  (some (m_new S6 12 n11)).bind fun S11 =>
  (o_sP S11 x0 3 1 o11).bind fun S13 =>
  (o_le 5 (5 : Int32)).bind fun n18 =>
  (some (m_n S13 + 1)).bind fun o18 =>
  (some (m_new S13 12 n18)).bind fun S18 =>
  (o_sP S18 x0 3 2 o18).bind fun S20 =>
  (o_le 5 (5 : Int32)).bind fun n25 =>
  (some (m_n S20 + 1)).bind fun o25 =>
  (some (m_new S20 12 n25)).bind fun S25 =>
  (o_sP S25 x0 3 3 o25).bind fun S27 =>
  (o_sI S27 x0 3 4 (0 : Int32)).bind fun S32 =>
  (o_sI S32 x0 3 5 (0 : Int32)).bind fun S37 =>
  some S37
noncomputable def fX2_init (S : MS) (a0 : Nat) : Option MS := bX2_init_0 S a0
noncomputable def bX2_takesComma_16 (S : MS) : Option (Int32 × MS) :=
  some ((0 : Int32), S)
noncomputable def bX2_takesComma_0 (S : MS) (x0 : Nat) : Option (Int32 × MS) :=
  (o_gI S x0 3 4).bind fun v1 =>
  if v1 = (3 : Int32) then
    (o_gI S x0 3 0).bind fun v9 =>
    if v9 < (5 : Int32) then
      (o_sI S x0 3 4 (0 : Int32)).bind fun S20 =>
      some ((1 : Int32), S20)
    else
      bX2_takesComma_16 S
  else
    bX2_takesComma_16 S
noncomputable def fX2_takesComma (S : MS) (a0 : Nat) : Option (Int32 × MS) := bX2_takesComma_0 S a0
noncomputable def bX2_takesDigit_19 (S : MS) : Option (Int32 × MS) :=
  some ((0 : Int32), S)
noncomputable def bX2_takesDigit_39 (S : MS) (x0 : Nat) (x1 : Int32) : Option (Int32 × MS) :=
  (o_gP S x0 3 3).bind fun v40 =>
  (o_gI S x0 3 0).bind fun v44 =>
  (o_gP S x0 3 3).bind fun v52 =>
  (o_gI S x0 3 0).bind fun v56 =>
  (o_ld S v52 12 (v56 - (1 : Int32))).bind fun v61 =>
  (o_st S v40 12 (v44 - (1 : Int32)) ((((10 : Int32) * v61) + x1) - (48 : Int32))).bind fun S68 =>
  (o_gI S68 x0 3 5).bind fun v71 =>
  (o_sI S68 x0 3 5 (v71 + (1 : Int32))).bind fun S76 =>
  (o_sI S76 x0 3 4 (3 : Int32)).bind fun S81 =>
  some ((1 : Int32), S81)
noncomputable def bX2_takesDigit_0 (S : MS) (x0 : Nat) (x1 : Int32) : Option (Int32 × MS) :=
  (fX9_isWithin x1 (48 : Int32) (57 : Int32)).bind fun v5 =>
  if v5 = 0 then
    bX2_takesDigit_19 S
  else
    (o_gI S x0 3 5).bind fun v12 =>
    if v12 < (5 : Int32) then
      (o_gI S x0 3 4).bind fun v22 =>
      if v22 = (2 : Int32) then
        (o_gI S x0 3 0).bind fun v31 =>
        (o_sI S x0 3 0 (v31 + (1 : Int32))).bind fun S36 =>
        bX2_takesDigit_39 S36 x0 x1
      else
        bX2_takesDigit_39 S x0 x1
    else
      bX2_takesDigit_19 S
noncomputable def fX2_takesDigit (S : MS) (a0 : Nat) (a1 : Int32) : Option (Int32 × MS) := bX2_takesDigit_0 S a0 a1
noncomputable def bX2_takesRegion_48 (S : MS) : Option (Int32 × MS) :=
  some ((0 : Int32), S)
noncomputable def bX2_takesRegion_35 (S : MS) (x0 : Nat) (x1 : Int32) (z0 : Int32) : Option (Int32 × MS) :=
  if z0 = 0 then
    bX2_takesRegion_48 S
  else
    (o_gI S x0 3 0).bind fun v41 =>
    if v41 < (5 : Int32) then
      (o_gP S x0 3 1).bind fun v51 =>
      (o_gI S x0 3 0).bind fun v55 =>
      (o_st S v51 12 v55 x1).bind fun S59 =>
      (o_sI S59 x0 3 5 (0 : Int32)).bind fun S62 =>
      (o_sI S62 x0 3 4 (1 : Int32)).bind fun S67 =>
      some ((1 : Int32), S67)
    else
      bX2_takesRegion_48 S
noncomputable def bX2_takesRegion_30 (S : MS) (x0 : Nat) (x1 : Int32) : Option (Int32 × MS) :=
  bX2_takesRegion_35 S x0 x1 (1 : Int32)
noncomputable def bX2_takesRegion_0 (S : MS) (x0 : Nat) (x1 : Int32) : Option (Int32 × MS) :=
  if x1 = (110 : Int32) then
    bX2_takesRegion_30 S x0 x1
  else
    if x1 = (115 : Int32) then
      bX2_takesRegion_30 S x0 x1
    else
      if x1 = (119 : Int32) then
        bX2_takesRegion_30 S x0 x1
      else
        if x1 = (101 : Int32) then
          bX2_takesRegion_30 S x0 x1
        else
          if x1 = (109 : Int32) then
            bX2_takesRegion_30 S x0 x1
          else
            bX2_takesRegion_35 S x0 x1 (0 : Int32)
noncomputable def fX2_takesRegion (S : MS) (a0 : Nat) (a1 : Int32) : Option (Int32 × MS) := bX2_takesRegion_0 S a0 a1
noncomputable def bX2_takesSign_14 (S : MS) (x0 : Nat) (x1 : Int32) : Option (Int32 × MS) :=
  (o_gP S x0 3 2).bind fun v15 =>
  (o_gI S x0 3 0).bind fun v19 =>
  (o_st S v15 12 v19 x1).bind fun S23 =>
  (o_sI S23 x0 3 4 (2 : Int32)).bind fun S26 =>
  some ((1 : Int32), S26)
noncomputable def bX2_takesSign_0 (S : MS) (x0 : Nat) (x1 : Int32) : Option (Int32 × MS) :=
  if x1 = (60 : Int32) then
    bX2_takesSign_14 S x0 x1
  else
    if x1 = (62 : Int32) then
      bX2_takesSign_14 S x0 x1
    else
      some ((0 : Int32), S)
noncomputable def fX2_takesSign (S : MS) (a0 : Nat) (a1 : Int32) : Option (Int32 × MS) := bX2_takesSign_0 S a0 a1
noncomputable def bX2_takes_62 (S : MS) (z0 : Int32) : Option (Int32 × MS) :=
  (o_zb z0).bind fun z62 =>
  some (z62, S)
noncomputable def bX2_takes_0 (S : MS) (x0 : Nat) (x1 : Int32) : Option (Int32 × MS) :=
  (o_gI S x0 3 4).bind fun v1 =>
  if v1 = (0 : Int32) then
    (o_is S x0 3).bind fun _ =>
    b2 (fX2_takesRegion S x0 x1) fun v34 S34 =>
    (o_zb v34).bind fun z37 =>
    some (z37, S34)
  else
  if v1 = (1 : Int32) then
    (o_is S x0 3).bind fun _ =>
    b2 (fX2_takesSign S x0 x1) fun v40 S40 =>
    (o_zb v40).bind fun z43 =>
    some (z43, S40)
  else
  if x1 = (44 : Int32) then
    (o_is S x0 3).bind fun _ =>
    b2 (fX2_takesComma S x0) fun v51 S51 =>
    bX2_takes_62 S51 v51
  else
    (o_is S x0 3).bind fun _ =>
    b2 (fX2_takesDigit S x0 x1) fun v59 S59 =>
    bX2_takes_62 S59 v59
noncomputable def fX2_takes (S : MS) (a0 : Nat) (a1 : Int32) : Option (Int32 × MS) := bX2_takes_0 S a0 a1
noncomputable def bX2_firstFaultOf_0 (S : MS) (x0 : Nat) (x1 : Nat) (x2 : Int32) (x3 : Int32) : Option ((Nat × Nat × Int32 × Int32 × Int32 × MS) ⊕ (Int32 × MS)) :=
  some (.inl (x0, x1, x2, x3, (0 : Int32), S))
noncomputable def bX2_firstFaultOf_45 (S : MS) (z0 : Int32) : Option ((Nat × Nat × Int32 × Int32 × Int32 × MS) ⊕ (Int32 × MS)) :=
  some (.inr (z0, S))
noncomputable def bX2_firstFaultOf_3 (S : MS) (x0 : Nat) (x1 : Nat) (x2 : Int32) (x3 : Int32) (x4 : Int32) : Option ((Nat × Nat × Int32 × Int32 × Int32 × MS) ⊕ (Int32 × MS)) :=
  if x3 ≤ x4 then
    (o_gI S x0 3 4).bind fun v32 =>
    if v32 = (3 : Int32) then
      bX2_firstFaultOf_45 S (-9 : Int32)
    else
      bX2_firstFaultOf_45 S x3
  else
    (o_ld S x1 12 (x2 + x4)).bind fun v15 =>
    (o_is S x0 3).bind fun _ =>
    b2 (fX2_takes S x0 v15) fun v16 S16 =>
    if v16 = 0 then
      some (.inr (x4, S16))
    else
      (some (x4 + 1)).bind fun v25 =>
      some (.inl (x0, x1, x2, x3, v25, S16))
noncomputable def sX2_firstFaultOf : (Nat × Nat × Int32 × Int32 × Int32 × MS) → Option ((Nat × Nat × Int32 × Int32 × Int32 × MS) ⊕ (Int32 × MS)) := (fun t => bX2_firstFaultOf_3 t.2.2.2.2.2 t.1 t.2.1 t.2.2.1 t.2.2.2.1 t.2.2.2.2.1)
noncomputable def hX2_firstFaultOf_3 (S : MS) (x0 : Nat) (x1 : Nat) (x2 : Int32) (x3 : Int32) (x4 : Int32) : Option (Int32 × MS) := lim (sX2_firstFaultOf) (x0, x1, x2, x3, x4, S)
theorem qX2_firstFaultOf_3 (S : MS) (x0 : Nat) (x1 : Nat) (x2 : Int32) (x3 : Int32) (x4 : Int32) : hX2_firstFaultOf_3 S x0 x1 x2 x3 x4 = fin (sX2_firstFaultOf) (bX2_firstFaultOf_3 S x0 x1 x2 x3 x4) := lim_eq _ _
noncomputable def fX2_firstFaultOf (S : MS) (a0 : Nat) (a1 : Nat) (a2 : Int32) (a3 : Int32) : Option (Int32 × MS) := fin (sX2_firstFaultOf) (bX2_firstFaultOf_0 S a0 a1 a2 a3)
noncomputable def bX9_forecast_0 (S : MS) (x0 : Nat) (x1 : Int32) (x2 : Int32) (x3 : Int32) (x4 : Int32) : Option (Int32 × MS) :=
  (o_sI S x0 10 12 (0 : Int32)).bind fun S2 =>
  (fX9_isSheet x1).bind fun v6 =>
  if v6 = 0 then
    some ((-1 : Int32), S2)
  else
    (fX9_isBelow x2 (3 : Int32)).bind fun v16 =>
    if v16 = 0 then
      some ((-2 : Int32), S2)
    else
      (o_gP S2 x0 10 10).bind fun v26 =>
      (o_ldP S2 v26 14 x1).bind fun v30 =>
      (o_is S2 v30 8).bind fun _ =>
      (fX7_faultOfTaking S2 v30 x2 x3 (x4.toInt64)).bind fun v36 =>
      if v36 = 0 then
        (some (m_n S2 + 1)).bind fun o53 =>
        (some (m_new S2 3 0)).bind fun S53 =>
        (fX2_init S53 o53).bind fun S57 =>
        (o_gP S57 x0 10 10).bind fun v65 =>
        (o_ldP S57 v65 14 x1).bind fun v69 =>
        (o_gP S57 v69 8 2).bind fun v70 =>
        (o_is S57 o53 3).bind fun _ =>
        b2 (fX2_firstFaultOf S57 o53 v70 x3 x4) fun v76 S76 =>
        if v76 = (-9 : Int32) then
          (o_gP S76 x0 10 9).bind fun v95 =>
          (o_is S76 v95 0).bind fun _ =>
          (fJx4a65c_size_8abf5 S76 v95).bind fun v98 =>
          if v98 < (8 : Int32) then
            (o_gP S76 x0 10 9).bind fun v110 =>
            (o_is S76 v110 0).bind fun _ =>
            b2 (fJx4a65c_add_9ea2d S76 v110 o53) fun v115 S115 =>
            (o_gP S115 x0 10 9).bind fun v120 =>
            (o_is S115 v120 0).bind fun _ =>
            (fJx4a65c_size_8abf5 S115 v120).bind fun v123 =>
            some ((v123 - (1 : Int32)), S115)
          else
            some ((-4 : Int32), S76)
        else
          some (((-100 : Int32) - v76), S76)
      else
        (o_is S2 x0 10).bind fun _ =>
        b2 (fX9_comeTo S2 x0 v36) fun v49 S49 =>
        some (v49, S49)
noncomputable def fX9_forecast (S : MS) (a0 : Nat) (a1 : Int32) (a2 : Int32) (a3 : Int32) (a4 : Int32) : Option (Int32 × MS) := bX9_forecast_0 S a0 a1 a2 a3 a4
noncomputable def bX4_costWith_0 (S : MS) (x0 : Nat) (x1 : Int32) (x2 : Int32) (x3 : Int32) : Option Int32 :=
  (o_gP S x0 5 0).bind fun v1 =>
  (o_ldP S v1 16 x1).bind fun v5 =>
  (o_ld S v5 12 x2).bind fun v7 =>
  (o_gP S x0 5 1).bind fun v9 =>
  (o_ldP S v9 16 (x1 + (1 : Int32))).bind fun v15 =>
  (o_ld S v15 12 (x3 ||| ((1 : Int32) <<< (x2 &&& 31)))).bind fun v21 =>
  some (v7 + v21)
noncomputable def fX4_costWith (S : MS) (a0 : Nat) (a1 : Int32) (a2 : Int32) (a3 : Int32) : Option Int32 := bX4_costWith_0 S a0 a1 a2 a3
noncomputable def bX4_leastCost_0 (S : MS) (x0 : Nat) (x1 : Int32) (x2 : Int32) (x3 : Int32) : Option ((Nat × Int32 × Int32 × Int32 × Int32 × Int32) ⊕ Int32) :=
  (o_gP S x0 5 1).bind fun v3 =>
  (o_ldP S v3 16 (x1 + (1 : Int32))).bind fun v9 =>
  (o_ld S v9 12 x2).bind fun v11 =>
  (some (((15 : Int32) + v11))).bind fun v13 =>
  some (.inl (x0, x1, x2, x3, v13, (0 : Int32)))
noncomputable def bX4_leastCost_48 (S : MS) (x0 : Nat) (x1 : Int32) (x2 : Int32) (x3 : Int32) (x4 : Int32) (x5 : Int32) : Option ((Nat × Int32 × Int32 × Int32 × Int32 × Int32) ⊕ Int32) :=
  (some (x5 + 1)).bind fun v48 =>
  some (.inl (x0, x1, x2, x3, x4, v48))
noncomputable def bX4_leastCost_18 (S : MS) (x0 : Nat) (x1 : Int32) (x2 : Int32) (x3 : Int32) (x4 : Int32) (x5 : Int32) : Option ((Nat × Int32 × Int32 × Int32 × Int32 × Int32) ⊕ Int32) :=
  if x3 ≤ x5 then
    some (.inr x4)
  else
    (fX9_isIn x2 x5).bind fun v27 =>
    if v27 = 0 then
      (o_is S x0 5).bind fun _ =>
      (fX4_costWith S x0 x1 x5 x2).bind fun v40 =>
      (fJ9_min_7cf53 x4 v40).bind fun v43 =>
      bX4_leastCost_48 S x0 x1 x2 x3 v43 x5
    else
      bX4_leastCost_48 S x0 x1 x2 x3 x4 x5
noncomputable def sX4_leastCost (S : MS) : (Nat × Int32 × Int32 × Int32 × Int32 × Int32) → Option ((Nat × Int32 × Int32 × Int32 × Int32 × Int32) ⊕ Int32) := (fun t => bX4_leastCost_18 S t.1 t.2.1 t.2.2.1 t.2.2.2.1 t.2.2.2.2.1 t.2.2.2.2.2)
noncomputable def hX4_leastCost_18 (S : MS) (x0 : Nat) (x1 : Int32) (x2 : Int32) (x3 : Int32) (x4 : Int32) (x5 : Int32) : Option Int32 := lim (sX4_leastCost S) (x0, x1, x2, x3, x4, x5)
theorem qX4_leastCost_18 (S : MS) (x0 : Nat) (x1 : Int32) (x2 : Int32) (x3 : Int32) (x4 : Int32) (x5 : Int32) : hX4_leastCost_18 S x0 x1 x2 x3 x4 x5 = fin (sX4_leastCost S) (bX4_leastCost_18 S x0 x1 x2 x3 x4 x5) := lim_eq _ _
noncomputable def fX4_leastCost (S : MS) (a0 : Nat) (a1 : Int32) (a2 : Int32) (a3 : Int32) : Option Int32 := fin (sX4_leastCost S) (bX4_leastCost_0 S a0 a1 a2 a3)
noncomputable def bX4_pairCost_40 (S : MS) : Option ((Nat × Nat × Int32 × Int32 × Int32) ⊕ Int32) :=
  some (.inr (1000 : Int32))
noncomputable def bX4_pairCost_0 (S : MS) (x0 : Nat) (x1 : Nat) : Option ((Nat × Nat × Int32 × Int32 × Int32) ⊕ Int32) :=
  (o_gI S x0 4 1).bind fun v1 =>
  (o_gI S x1 4 1).bind fun v5 =>
  (fJ9_max_7cf53 v1 v5).bind fun v8 =>
  (o_gI S x0 4 2).bind fun v13 =>
  (o_gI S x1 4 2).bind fun v17 =>
  (fJ9_min_7cf53 v13 v17).bind fun v20 =>
  (o_gI S x0 4 0).bind fun v25 =>
  (o_gI S x1 4 0).bind fun v29 =>
  if v25 = v29 then
    if v8 ≤ v20 then
      some (.inl (x0, x1, v20, (0 : Int32), v8))
    else
      bX4_pairCost_40 S
  else
    bX4_pairCost_40 S
noncomputable def bX4_pairCost_50 (S : MS) (x0 : Nat) (x1 : Nat) (x3 : Int32) (x4 : Int32) (x5 : Int32) : Option ((Nat × Nat × Int32 × Int32 × Int32) ⊕ Int32) :=
  if x3 < x5 then
    some (.inr x4)
  else
    (o_gP S x0 4 4).bind fun v59 =>
    (o_ld S v59 12 x5).bind fun v64 =>
    (o_gP S x1 4 4).bind fun v66 =>
    (o_ld S v66 12 x5).bind fun v71 =>
    (fJ9_abs_0f7a4 (v64 - v71)).bind fun v73 =>
    (some ((x4 + v73))).bind fun v77 =>
    (some (x5 + 1)).bind fun v79 =>
    some (.inl (x0, x1, x3, v77, v79))
noncomputable def sX4_pairCost (S : MS) : (Nat × Nat × Int32 × Int32 × Int32) → Option ((Nat × Nat × Int32 × Int32 × Int32) ⊕ Int32) := (fun t => bX4_pairCost_50 S t.1 t.2.1 t.2.2.1 t.2.2.2.1 t.2.2.2.2)
noncomputable def hX4_pairCost_50 (S : MS) (x0 : Nat) (x1 : Nat) (x3 : Int32) (x4 : Int32) (x5 : Int32) : Option Int32 := lim (sX4_pairCost S) (x0, x1, x3, x4, x5)
theorem qX4_pairCost_50 (S : MS) (x0 : Nat) (x1 : Nat) (x3 : Int32) (x4 : Int32) (x5 : Int32) : hX4_pairCost_50 S x0 x1 x3 x4 x5 = fin (sX4_pairCost S) (bX4_pairCost_50 S x0 x1 x3 x4 x5) := lim_eq _ _
noncomputable def fX4_pairCost (S : MS) (a0 : Nat) (a1 : Nat) : Option Int32 := fin (sX4_pairCost S) (bX4_pairCost_0 S a0 a1)
noncomputable def bX4_firstPartner_0 (S : MS) (x0 : Nat) (x1 : Int32) (x2 : Int32) (x3 : Int32) : Option ((Nat × Int32 × Int32 × Int32 × Int32) ⊕ Int32) :=
  some (.inl (x0, x1, x2, x3, (0 : Int32)))
noncomputable def bX4_firstPartner_40 (S : MS) (x0 : Nat) (x1 : Int32) (x2 : Int32) (x3 : Int32) (x4 : Int32) : Option ((Nat × Int32 × Int32 × Int32 × Int32) ⊕ Int32) :=
  (some (x4 + 1)).bind fun v40 =>
  some (.inl (x0, x1, x2, x3, v40))
noncomputable def bX4_firstPartner_3 (S : MS) (x0 : Nat) (x1 : Int32) (x2 : Int32) (x3 : Int32) (x4 : Int32) : Option ((Nat × Int32 × Int32 × Int32 × Int32) ⊕ Int32) :=
  if x3 ≤ x4 then
    some (.inr (-9 : Int32))
  else
    (fX9_isIn x2 x4).bind fun v12 =>
    if v12 = 0 then
      (o_is S x0 5).bind fun _ =>
      (fX4_costWith S x0 x1 x4 x2).bind fun v23 =>
      (o_gP S x0 5 1).bind fun v27 =>
      (o_ldP S v27 16 x1).bind fun v31 =>
      (o_ld S v31 12 x2).bind fun v33 =>
      if v23 = v33 then
        some (.inr x4)
      else
        bX4_firstPartner_40 S x0 x1 x2 x3 x4
    else
      bX4_firstPartner_40 S x0 x1 x2 x3 x4
noncomputable def sX4_firstPartner (S : MS) : (Nat × Int32 × Int32 × Int32 × Int32) → Option ((Nat × Int32 × Int32 × Int32 × Int32) ⊕ Int32) := (fun t => bX4_firstPartner_3 S t.1 t.2.1 t.2.2.1 t.2.2.2.1 t.2.2.2.2)
noncomputable def hX4_firstPartner_3 (S : MS) (x0 : Nat) (x1 : Int32) (x2 : Int32) (x3 : Int32) (x4 : Int32) : Option Int32 := lim (sX4_firstPartner S) (x0, x1, x2, x3, x4)
theorem qX4_firstPartner_3 (S : MS) (x0 : Nat) (x1 : Int32) (x2 : Int32) (x3 : Int32) (x4 : Int32) : hX4_firstPartner_3 S x0 x1 x2 x3 x4 = fin (sX4_firstPartner S) (bX4_firstPartner_3 S x0 x1 x2 x3 x4) := lim_eq _ _
noncomputable def fX4_firstPartner (S : MS) (a0 : Nat) (a1 : Int32) (a2 : Int32) (a3 : Int32) : Option Int32 := fin (sX4_firstPartner S) (bX4_firstPartner_0 S a0 a1 a2 a3)
noncomputable def bX4_setPartners_0 (S : MS) (x0 : Nat) (x1 : Int32) (x2 : Int32) : Option ((Nat × Int32 × Int32 × Int32 × Int32 × MS) ⊕ MS) :=
  some (.inl (x0, x1, x2, (0 : Int32), (0 : Int32), S))
noncomputable def bX4_setPartners_50 (S : MS) (x0 : Nat) (x1 : Int32) (x2 : Int32) (x3 : Int32) (x4 : Int32) : Option ((Nat × Int32 × Int32 × Int32 × Int32 × MS) ⊕ MS) :=
  (some (x4 + 1)).bind fun v50 =>
  some (.inl (x0, x1, x2, x3, v50, S))
noncomputable def bX4_setPartners_5 (S : MS) (x0 : Nat) (x1 : Int32) (x2 : Int32) (x3 : Int32) (x4 : Int32) : Option ((Nat × Int32 × Int32 × Int32 × Int32 × MS) ⊕ MS) :=
  if x1 ≤ x4 then
    some (.inr S)
  else
    (o_gP S x0 5 2).bind fun v12 =>
    (o_is S x0 5).bind fun _ =>
    (fX4_firstPartner S x0 x4 x3 x2).bind fun v22 =>
    (o_st S v12 12 x4 v22).bind fun S25 =>
    (o_gP S25 x0 5 2).bind fun v27 =>
    (o_ld S25 v27 12 x4).bind fun v32 =>
    if v32 = (-9 : Int32) then
      bX4_setPartners_50 S25 x0 x1 x2 x3 x4
    else
      (o_gP S25 x0 5 2).bind fun v41 =>
      (o_ld S25 v41 12 x4).bind fun v46 =>
      (some ((x3 ||| ((1 : Int32) <<< (v46 &&& 31))))).bind fun v49 =>
      bX4_setPartners_50 S25 x0 x1 x2 v49 x4
noncomputable def sX4_setPartners : (Nat × Int32 × Int32 × Int32 × Int32 × MS) → Option ((Nat × Int32 × Int32 × Int32 × Int32 × MS) ⊕ MS) := (fun t => bX4_setPartners_5 t.2.2.2.2.2 t.1 t.2.1 t.2.2.1 t.2.2.2.1 t.2.2.2.2.1)
noncomputable def hX4_setPartners_5 (S : MS) (x0 : Nat) (x1 : Int32) (x2 : Int32) (x3 : Int32) (x4 : Int32) : Option MS := lim (sX4_setPartners) (x0, x1, x2, x3, x4, S)
theorem qX4_setPartners_5 (S : MS) (x0 : Nat) (x1 : Int32) (x2 : Int32) (x3 : Int32) (x4 : Int32) : hX4_setPartners_5 S x0 x1 x2 x3 x4 = fin (sX4_setPartners) (bX4_setPartners_5 S x0 x1 x2 x3 x4) := lim_eq _ _
noncomputable def fX4_setPartners (S : MS) (a0 : Nat) (a1 : Int32) (a2 : Int32) : Option MS := fin (sX4_setPartners) (bX4_setPartners_0 S a0 a1 a2)
noncomputable def bX4_match_0 (S : MS) (x0 : Nat) (x1 : Nat) (x2 : Nat) : Option (((Nat × Nat × Nat × Int32 × Int32 × Int32 × MS) ⊕ ((Nat × Nat × Nat × Int32 × Int32 × Int32 × Int32 × MS) ⊕ ((Nat × Int32 × Int32 × Int32 × MS) ⊕ ((Nat × Int32 × Int32 × Int32 × MS) ⊕ (Nat × Int32 × Int32 × Int32 × Int32 × MS))))) ⊕ (Int32 × MS)) :=
  (o_is S x1 0).bind fun _ =>
  (fJx4a65c_size_8abf5 S x1).bind fun v1 =>
  (o_is S x2 0).bind fun _ =>
  (fJx4a65c_size_8abf5 S x2).bind fun v6 =>
  some (.inl (.inl (x0, x1, x2, v1, v6, (0 : Int32), S)))
noncomputable def bX4_match_14 (S : MS) (x0 : Nat) (x1 : Nat) (x2 : Nat) (x3 : Int32) (x4 : Int32) (x5 : Int32) : Option (((Nat × Nat × Nat × Int32 × Int32 × Int32 × MS) ⊕ ((Nat × Nat × Nat × Int32 × Int32 × Int32 × Int32 × MS) ⊕ ((Nat × Int32 × Int32 × Int32 × MS) ⊕ ((Nat × Int32 × Int32 × Int32 × MS) ⊕ (Nat × Int32 × Int32 × Int32 × Int32 × MS))))) ⊕ (Int32 × MS)) :=
  if x3 ≤ x5 then
    some (.inl (.inr (.inr (.inl (x0, x3, x4, (0 : Int32), S)))))
  else
    some (.inl (.inr (.inl (x0, x1, x2, x3, x4, x5, (0 : Int32), S))))
noncomputable def bX4_match_23 (S : MS) (x0 : Nat) (x1 : Nat) (x2 : Nat) (x3 : Int32) (x4 : Int32) (x5 : Int32) (x6 : Int32) : Option (((Nat × Nat × Nat × Int32 × Int32 × Int32 × MS) ⊕ ((Nat × Nat × Nat × Int32 × Int32 × Int32 × Int32 × MS) ⊕ ((Nat × Int32 × Int32 × Int32 × MS) ⊕ ((Nat × Int32 × Int32 × Int32 × MS) ⊕ (Nat × Int32 × Int32 × Int32 × Int32 × MS))))) ⊕ (Int32 × MS)) :=
  if x4 ≤ x6 then
    (some (x5 + 1)).bind fun v67 =>
    some (.inl (.inl (x0, x1, x2, x3, x4, v67, S)))
  else
    (o_gP S x0 5 0).bind fun v31 =>
    (o_ldP S v31 16 x5).bind fun v36 =>
    (o_is S x1 0).bind fun _ =>
    (fJx4a65c_get_915e3 S x1 x5).bind fun v42 =>
    (o_is S v42 4).bind fun v45 =>
    (o_is S x2 0).bind fun _ =>
    (fJx4a65c_get_915e3 S x2 x6).bind fun v51 =>
    (o_is S v51 4).bind fun v54 =>
    (fX4_pairCost S v45 v54).bind fun v57 =>
    (o_st S v36 12 x6 v57).bind fun S60 =>
    (some (x6 + 1)).bind fun v61 =>
    some (.inl (.inr (.inl (x0, x1, x2, x3, x4, x5, v61, S60))))
noncomputable def bX4_match_76 (S : MS) (x0 : Nat) (x3 : Int32) (x4 : Int32) (x5 : Int32) : Option (((Nat × Nat × Nat × Int32 × Int32 × Int32 × MS) ⊕ ((Nat × Nat × Nat × Int32 × Int32 × Int32 × Int32 × MS) ⊕ ((Nat × Int32 × Int32 × Int32 × MS) ⊕ ((Nat × Int32 × Int32 × Int32 × MS) ⊕ (Nat × Int32 × Int32 × Int32 × Int32 × MS))))) ⊕ (Int32 × MS)) :=
  if ((1 : Int32) <<< (x4 &&& 31)) ≤ x5 then
    (some ((x3 - (1 : Int32)))).bind fun v114 =>
    some (.inl (.inr (.inr (.inr (.inl (x0, x3, x4, v114, S))))))
  else
    (o_gP S x0 5 1).bind fun v86 =>
    (o_ldP S v86 16 x3).bind fun v90 =>
    (fJ6_bitCount_0f7a4 x5).bind fun v99 =>
    (o_st S v90 12 x5 ((15 : Int32) * (x4 - v99))).bind fun S104 =>
    (some (x5 + 1)).bind fun v105 =>
    some (.inl (.inr (.inr (.inl (x0, x3, x4, v105, S104)))))
noncomputable def bX4_match_116 (S : MS) (x0 : Nat) (x3 : Int32) (x4 : Int32) (x5 : Int32) : Option (((Nat × Nat × Nat × Int32 × Int32 × Int32 × MS) ⊕ ((Nat × Nat × Nat × Int32 × Int32 × Int32 × Int32 × MS) ⊕ ((Nat × Int32 × Int32 × Int32 × MS) ⊕ ((Nat × Int32 × Int32 × Int32 × MS) ⊕ (Nat × Int32 × Int32 × Int32 × Int32 × MS))))) ⊕ (Int32 × MS)) :=
  if x5 < 0 then
    (o_is S x0 5).bind fun _ =>
    (fX4_setPartners S x0 x3 x4).bind fun S169 =>
    (o_gP S169 x0 5 1).bind fun v173 =>
    (o_ldP S169 v173 16 (0 : Int32)).bind fun v177 =>
    (o_ld S169 v177 12 (0 : Int32)).bind fun v179 =>
    some (.inr (v179, S169))
  else
    some (.inl (.inr (.inr (.inr (.inr (x0, x3, x4, x5, (0 : Int32), S))))))
noncomputable def bX4_match_124 (S : MS) (x0 : Nat) (x3 : Int32) (x4 : Int32) (x5 : Int32) (x6 : Int32) : Option (((Nat × Nat × Nat × Int32 × Int32 × Int32 × MS) ⊕ ((Nat × Nat × Nat × Int32 × Int32 × Int32 × Int32 × MS) ⊕ ((Nat × Int32 × Int32 × Int32 × MS) ⊕ ((Nat × Int32 × Int32 × Int32 × MS) ⊕ (Nat × Int32 × Int32 × Int32 × Int32 × MS))))) ⊕ (Int32 × MS)) :=
  if ((1 : Int32) <<< (x4 &&& 31)) ≤ x6 then
    (some (x5 + (-1))).bind fun v159 =>
    some (.inl (.inr (.inr (.inr (.inl (x0, x3, x4, v159, S))))))
  else
    (o_gP S x0 5 1).bind fun v134 =>
    (o_ldP S v134 16 x5).bind fun v139 =>
    (o_is S x0 5).bind fun _ =>
    (fX4_leastCost S x0 x5 x6 x4).bind fun v149 =>
    (o_st S v139 12 x6 v149).bind fun S152 =>
    (some (x6 + 1)).bind fun v153 =>
    some (.inl (.inr (.inr (.inr (.inr (x0, x3, x4, x5, v153, S152))))))
noncomputable def sX4_match : ((Nat × Nat × Nat × Int32 × Int32 × Int32 × MS) ⊕ ((Nat × Nat × Nat × Int32 × Int32 × Int32 × Int32 × MS) ⊕ ((Nat × Int32 × Int32 × Int32 × MS) ⊕ ((Nat × Int32 × Int32 × Int32 × MS) ⊕ (Nat × Int32 × Int32 × Int32 × Int32 × MS))))) → Option (((Nat × Nat × Nat × Int32 × Int32 × Int32 × MS) ⊕ ((Nat × Nat × Nat × Int32 × Int32 × Int32 × Int32 × MS) ⊕ ((Nat × Int32 × Int32 × Int32 × MS) ⊕ ((Nat × Int32 × Int32 × Int32 × MS) ⊕ (Nat × Int32 × Int32 × Int32 × Int32 × MS))))) ⊕ (Int32 × MS)) := (Sum.elim (fun t => bX4_match_14 t.2.2.2.2.2.2 t.1 t.2.1 t.2.2.1 t.2.2.2.1 t.2.2.2.2.1 t.2.2.2.2.2.1) (Sum.elim (fun t => bX4_match_23 t.2.2.2.2.2.2.2 t.1 t.2.1 t.2.2.1 t.2.2.2.1 t.2.2.2.2.1 t.2.2.2.2.2.1 t.2.2.2.2.2.2.1) (Sum.elim (fun t => bX4_match_76 t.2.2.2.2 t.1 t.2.1 t.2.2.1 t.2.2.2.1) (Sum.elim (fun t => bX4_match_116 t.2.2.2.2 t.1 t.2.1 t.2.2.1 t.2.2.2.1) (fun t => bX4_match_124 t.2.2.2.2.2 t.1 t.2.1 t.2.2.1 t.2.2.2.1 t.2.2.2.2.1)))))
noncomputable def hX4_match_14 (S : MS) (x0 : Nat) (x1 : Nat) (x2 : Nat) (x3 : Int32) (x4 : Int32) (x5 : Int32) : Option (Int32 × MS) := lim (sX4_match) (.inl (x0, x1, x2, x3, x4, x5, S))
theorem qX4_match_14 (S : MS) (x0 : Nat) (x1 : Nat) (x2 : Nat) (x3 : Int32) (x4 : Int32) (x5 : Int32) : hX4_match_14 S x0 x1 x2 x3 x4 x5 = fin (sX4_match) (bX4_match_14 S x0 x1 x2 x3 x4 x5) := lim_eq _ _
noncomputable def hX4_match_23 (S : MS) (x0 : Nat) (x1 : Nat) (x2 : Nat) (x3 : Int32) (x4 : Int32) (x5 : Int32) (x6 : Int32) : Option (Int32 × MS) := lim (sX4_match) (.inr (.inl (x0, x1, x2, x3, x4, x5, x6, S)))
theorem qX4_match_23 (S : MS) (x0 : Nat) (x1 : Nat) (x2 : Nat) (x3 : Int32) (x4 : Int32) (x5 : Int32) (x6 : Int32) : hX4_match_23 S x0 x1 x2 x3 x4 x5 x6 = fin (sX4_match) (bX4_match_23 S x0 x1 x2 x3 x4 x5 x6) := lim_eq _ _
noncomputable def hX4_match_76 (S : MS) (x0 : Nat) (x3 : Int32) (x4 : Int32) (x5 : Int32) : Option (Int32 × MS) := lim (sX4_match) (.inr (.inr (.inl (x0, x3, x4, x5, S))))
theorem qX4_match_76 (S : MS) (x0 : Nat) (x3 : Int32) (x4 : Int32) (x5 : Int32) : hX4_match_76 S x0 x3 x4 x5 = fin (sX4_match) (bX4_match_76 S x0 x3 x4 x5) := lim_eq _ _
noncomputable def hX4_match_116 (S : MS) (x0 : Nat) (x3 : Int32) (x4 : Int32) (x5 : Int32) : Option (Int32 × MS) := lim (sX4_match) (.inr (.inr (.inr (.inl (x0, x3, x4, x5, S)))))
theorem qX4_match_116 (S : MS) (x0 : Nat) (x3 : Int32) (x4 : Int32) (x5 : Int32) : hX4_match_116 S x0 x3 x4 x5 = fin (sX4_match) (bX4_match_116 S x0 x3 x4 x5) := lim_eq _ _
noncomputable def hX4_match_124 (S : MS) (x0 : Nat) (x3 : Int32) (x4 : Int32) (x5 : Int32) (x6 : Int32) : Option (Int32 × MS) := lim (sX4_match) (.inr (.inr (.inr (.inr (x0, x3, x4, x5, x6, S)))))
theorem qX4_match_124 (S : MS) (x0 : Nat) (x3 : Int32) (x4 : Int32) (x5 : Int32) (x6 : Int32) : hX4_match_124 S x0 x3 x4 x5 x6 = fin (sX4_match) (bX4_match_124 S x0 x3 x4 x5 x6) := lim_eq _ _
noncomputable def fX4_match (S : MS) (a0 : Nat) (a1 : Nat) (a2 : Nat) : Option (Int32 × MS) := fin (sX4_match) (bX4_match_0 S a0 a1 a2)
noncomputable def bX9_partnerOf_0 (S : MS) (x0 : Nat) (x1 : Int32) (x2 : Int32) : Option ((Nat × Int32 × Int32 × MS) ⊕ (Int32 × MS)) :=
  (o_gP S x0 10 6).bind fun v1 =>
  (o_gP S x0 10 3).bind fun v5 =>
  (o_gP S x0 10 4).bind fun v9 =>
  (o_is S v1 5).bind fun _ =>
  b2 (fX4_match S v1 v5 v9) fun v12 S12 =>
  if x1 = 0 then
    (o_gP S12 x0 10 6).bind fun v21 =>
    (o_gP S12 v21 5 2).bind fun v24 =>
    (o_ld S12 v24 12 x2).bind fun v28 =>
    some (.inr (v28, S12))
  else
    some (.inl (x0, x2, (0 : Int32), S12))
noncomputable def bX9_partnerOf_32 (S : MS) (x0 : Nat) (x2 : Int32) (x3 : Int32) : Option ((Nat × Int32 × Int32 × MS) ⊕ (Int32 × MS)) :=
  (o_gP S x0 10 3).bind fun v34 =>
  (o_is S v34 0).bind fun _ =>
  (fJx4a65c_size_8abf5 S v34).bind fun v37 =>
  if v37 ≤ x3 then
    some (.inr ((-9 : Int32), S))
  else
    (o_gP S x0 10 6).bind fun v44 =>
    (o_gP S v44 5 2).bind fun v47 =>
    (o_ld S v47 12 x3).bind fun v51 =>
    if v51 = x2 then
      some (.inr (x3, S))
    else
      (some (x3 + 1)).bind fun v58 =>
      some (.inl (x0, x2, v58, S))
noncomputable def sX9_partnerOf : (Nat × Int32 × Int32 × MS) → Option ((Nat × Int32 × Int32 × MS) ⊕ (Int32 × MS)) := (fun t => bX9_partnerOf_32 t.2.2.2 t.1 t.2.1 t.2.2.1)
noncomputable def hX9_partnerOf_32 (S : MS) (x0 : Nat) (x2 : Int32) (x3 : Int32) : Option (Int32 × MS) := lim (sX9_partnerOf) (x0, x2, x3, S)
theorem qX9_partnerOf_32 (S : MS) (x0 : Nat) (x2 : Int32) (x3 : Int32) : hX9_partnerOf_32 S x0 x2 x3 = fin (sX9_partnerOf) (bX9_partnerOf_32 S x0 x2 x3) := lim_eq _ _
noncomputable def fX9_partnerOf (S : MS) (a0 : Nat) (a1 : Int32) (a2 : Int32) : Option (Int32 × MS) := fin (sX9_partnerOf) (bX9_partnerOf_0 S a0 a1 a2)
noncomputable def bX9_front_0 (S : MS) (x0 : Nat) (x1 : Int32) (x2 : Int32) (x3 : Int32) : Option (Int32 × MS) :=
  (fX9_isBelow x1 (2 : Int32)).bind fun v2 =>
  if v2 = 0 then
    some ((-2 : Int32), S)
  else
    (o_is S x0 10).bind fun _ =>
    (fX9_frontsOf S x0 x1).bind fun v14 =>
    (o_is S v14 0).bind fun _ =>
    (fJx4a65c_size_8abf5 S v14).bind fun v17 =>
    (fX9_isBelow x2 v17).bind fun v20 =>
    if v20 = 0 then
      some ((-1 : Int32), S)
    else
      (o_is S x0 10).bind fun _ =>
      (fX9_frontsOf S x0 x1).bind fun v30 =>
      (o_is S v30 0).bind fun _ =>
      (fJx4a65c_get_915e3 S v30 x2).bind fun v34 =>
      (o_is S v34 4).bind fun v37 =>
      if x3 = (0 : Int32) then
        (o_gI S v37 4 0).bind fun v78 =>
        some (v78, S)
      else
      if x3 = (1 : Int32) then
        (o_gI S v37 4 1).bind fun v84 =>
        some (v84, S)
      else
      if x3 = (2 : Int32) then
        (o_gI S v37 4 2).bind fun v90 =>
        some (v90, S)
      else
      if x3 = (3 : Int32) then
        (o_gI S v37 4 3).bind fun v96 =>
        some (v96, S)
      else
      if x3 = (4 : Int32) then
        (o_is S x0 10).bind fun _ =>
        b2 (fX9_partnerOf S x0 x1 x2) fun v103 S103 =>
        some (v103, S103)
      else
      some ((-2 : Int32), S)
noncomputable def fX9_front (S : MS) (a0 : Nat) (a1 : Int32) (a2 : Int32) (a3 : Int32) : Option (Int32 × MS) := bX9_front_0 S a0 a1 a2 a3
noncomputable def bX9_guess_0 (S : MS) (x0 : Nat) (x1 : Int32) : Option Int32 :=
  (o_is S x0 10).bind fun _ =>
  (fX9_isWire S x0 x1).bind fun v2 =>
  if v2 = 0 then
    some (-1 : Int32)
  else
    (o_gP S x0 10 0).bind fun v11 =>
    (o_gP S v11 2 1).bind fun v14 =>
    (o_is S v14 0).bind fun _ =>
    (fJx4a65c_get_915e3 S v14 x1).bind fun v18 =>
    (o_is S v18 9).bind fun v21 =>
    (o_gP S x0 10 0).bind fun v26 =>
    (o_gP S v26 2 4).bind fun v29 =>
    (o_gI S v21 9 0).bind fun v33 =>
    (o_ld S v29 12 v33).bind fun v36 =>
    if v36 = (-9 : Int32) then
      some (-3 : Int32)
    else
      (o_gP S x0 10 0).bind fun v46 =>
      (o_is S v46 2).bind fun _ =>
      (fX1_guessFor S v46 v21).bind fun v50 =>
      some v50
noncomputable def fX9_guess (S : MS) (a0 : Nat) (a1 : Int32) : Option Int32 := bX9_guess_0 S a0 a1
noncomputable def bX9_leaveInTrace_0 (S : MS) (x0 : Nat) (x1 : Int32) : Option MS :=
  (o_gI S x0 10 11).bind fun v4 =>
  (o_sI S x0 10 11 (((31 : Int32) * v4) + x1)).bind fun S10 =>
  some S10
noncomputable def fX9_leaveInTrace (S : MS) (a0 : Nat) (a1 : Int32) : Option MS := bX9_leaveInTrace_0 S a0 a1
noncomputable def bX9_hail_0 (S : MS) (x0 : Nat) (x1 : Int32) : Option (Int32 × MS) :=
  (o_is S x0 10).bind fun _ =>
  (fX9_isPost S x0 x1).bind fun v2 =>
  if v2 = 0 then
    some ((-1 : Int32), S)
  else
    (o_gP S x0 10 0).bind fun v11 =>
    (o_gP S v11 2 0).bind fun v14 =>
    (o_is S v14 0).bind fun _ =>
    (fJx4a65c_get_915e3 S v14 x1).bind fun v18 =>
    (o_is S v18 7).bind fun v21 =>
    (o_gI S v21 7 0).bind fun v24 =>
    if v24 = (2 : Int32) then
      (o_is S x0 10).bind fun _ =>
      (fX9_leaveInTrace S x0 (5 : Int32)).bind fun S33 =>
      some ((80 : Int32), S33)
    else
      (o_is S x0 10).bind fun _ =>
      (fX9_leaveInTrace S x0 (4 : Int32)).bind fun S41 =>
      some (x1, S41)
noncomputable def fX9_hail (S : MS) (a0 : Nat) (a1 : Int32) : Option (Int32 × MS) := bX9_hail_0 S a0 a1
noncomputable def bX9_joining_0 (S : MS) (x0 : Nat) : Option (Int32 × MS) :=
  (o_gP S x0 10 6).bind fun v1 =>
  (o_gP S x0 10 3).bind fun v5 =>
  (o_gP S x0 10 4).bind fun v9 =>
  (o_is S v1 5).bind fun _ =>
  b2 (fX4_match S v1 v5 v9) fun v12 S12 =>
  some (v12, S12)
noncomputable def fX9_joining (S : MS) (a0 : Nat) : Option (Int32 × MS) := bX9_joining_0 S a0
noncomputable def bX0_countValues_0 (S : MS) (x0 : Nat) : Option ((Nat × Int32 × Int32) ⊕ Int32) :=
  some (.inl (x0, (0 : Int32), (0 : Int32)))
noncomputable def bX0_countValues_25 (S : MS) (x0 : Nat) (x1 : Int32) (x2 : Int32) : Option ((Nat × Int32 × Int32) ⊕ Int32) :=
  (some (x2 + 1)).bind fun v25 =>
  some (.inl (x0, x1, v25))
noncomputable def bX0_countValues_4 (S : MS) (x0 : Nat) (x1 : Int32) (x2 : Int32) : Option ((Nat × Int32 × Int32) ⊕ Int32) :=
  if (144 : Int32) ≤ x2 then
    some (.inr x1)
  else
    (o_gP S x0 1 4).bind fun v12 =>
    (o_ld S v12 12 x2).bind fun v16 =>
    if v16 = (-9 : Int32) then
      bX0_countValues_25 S x0 x1 x2
    else
      (some (x1 + 1)).bind fun v22 =>
      bX0_countValues_25 S x0 v22 x2
noncomputable def sX0_countValues (S : MS) : (Nat × Int32 × Int32) → Option ((Nat × Int32 × Int32) ⊕ Int32) := (fun t => bX0_countValues_4 S t.1 t.2.1 t.2.2)
noncomputable def hX0_countValues_4 (S : MS) (x0 : Nat) (x1 : Int32) (x2 : Int32) : Option Int32 := lim (sX0_countValues S) (x0, x1, x2)
theorem qX0_countValues_4 (S : MS) (x0 : Nat) (x1 : Int32) (x2 : Int32) : hX0_countValues_4 S x0 x1 x2 = fin (sX0_countValues S) (bX0_countValues_4 S x0 x1 x2) := lim_eq _ _
noncomputable def fX0_countValues (S : MS) (a0 : Nat) : Option Int32 := fin (sX0_countValues S) (bX0_countValues_0 S a0)
noncomputable def bX9_keep_0 (S : MS) (x0 : Nat) (x1 : Int32) : Option (Int32 × MS) :=
  (fX9_isBelow x1 (4 : Int32)).bind fun v2 =>
  if v2 = 0 then
    some ((-1 : Int32), S)
  else
    (o_is S x0 10).bind fun _ =>
    b2 (fX9_settledChart S x0) fun v11 S11 =>
    (o_gP S11 v11 1 4).bind fun v16 =>
    (o_gP S11 x0 10 7).bind fun v21 =>
    (o_ldP S11 v21 16 x1).bind fun v25 =>
    (o_cpy S11 v16 (0 : Int32) v25 (0 : Int32) (144 : Int32)).bind fun S30 =>
    (o_gP S30 x0 10 8).bind fun v34 =>
    (o_st S30 v34 13 x1 (1 : Int32)).bind fun S39 =>
    (o_is S39 v11 1).bind fun _ =>
    (fX0_countValues S39 v11).bind fun v41 =>
    some (v41, S39)
noncomputable def fX9_keep (S : MS) (a0 : Nat) (a1 : Int32) : Option (Int32 × MS) := bX9_keep_0 S a0 a1
set_option maxHeartbeats 4000000 in
set_option maxRecDepth 100000 in
theorem wX0_bestDrift_0 {p : Program} {l : Launch} {e : Env} {s : State} {m : MethodId} {args : Array Value} {below : List Frame} {meth : Method} {c : Code} {D : va_G} {cy : Nat → ClassId} (ad : Nat → Nat) (A : Nat → Prop) {S : MS} {S' : MS} {H : Heap} {locs : List Loc} {n0 : Nat} {r : Int32} {out : (((Nat × Nat × Int32 × Int32 × Int64 × Int64 × Int32 × MS) ⊕ (Nat × Nat × Int32 × Int32 × Int64 × Int64 × Int32 × Int32 × MS)) ⊕ (Int32 × MS))} {ls : Array Slot} {x0 : Nat} {x1 : Nat} {x2 : Int32} (C0 : CX p s m args meth c RX0 cX0_bestDrift 11 D cy) (M : ST D cy ad A s.heap (ZN n0 s.heap.size) S H locs) (hr : meth.sig.returnType = some .int) (hF : bX0_bestDrift_0 S x0 x1 x2 = some out) (hl : lv_has ls 11 [(0, .ref (ad x0)), (1, .ref (ad x1)), (2, .int x2)]) (Kr : ∀ r9, out = .inr r9 → r9 = (r, S')) (Kh0 : ∀ (y0 : Nat) (y1 : Nat) (y2 : Int32) (y3 : Int32) (y4 : Int64) (y5 : Int64) (y6 : Int32) (S2 : MS), out = .inl (.inl (y0, y1, y2, y3, y4, y5, y6, S2)) → ∀ (H1 : Heap) (locs1 : List Loc) (ls1 : Array Slot), ST D cy ad A s.heap (ZN n0 s.heap.size) S2 H1 locs1 → lv_has ls1 11 [(0, .ref (ad y0)), (1, .ref (ad y1)), (2, .int y2), (3, .int y3), (4, .long y4), (6, .long y5), (8, .int y6)] → W p l e rmX0_bestDrift s m args below meth c H1 locs1 0 0 (MQ below (QcM D cy ad A n0 S' (some (.int r))) args s 0 0 A) (F0 m 13 ls1 [])) (Kh1 : ∀ (y0 : Nat) (y1 : Nat) (y2 : Int32) (y3 : Int32) (y4 : Int64) (y5 : Int64) (y6 : Int32) (y7 : Int32) (S2 : MS), out = .inl (.inr (y0, y1, y2, y3, y4, y5, y6, y7, S2)) → ∀ (H1 : Heap) (locs1 : List Loc) (ls1 : Array Slot), ST D cy ad A s.heap (ZN n0 s.heap.size) S2 H1 locs1 → lv_has ls1 11 [(0, .ref (ad y0)), (1, .ref (ad y1)), (2, .int y2), (3, .int y3), (4, .long y4), (6, .long y5), (8, .int y6), (9, .int y7)] → W p l e rmX0_bestDrift s m args below meth c H1 locs1 0 0 (MQ below (QcM D cy ad A n0 S' (some (.int r))) args s 0 0 A) (F0 m 23 ls1 [])) : W p l e rmX0_bestDrift s m args below meth c H locs 0 0 (MQ below (QcM D cy ad A n0 S' (some (.int r))) args s 0 0 A) (F0 m 0 ls []) := by
  unfold bX0_bestDrift_0 at hF
  obtain ⟨hx, hb, -, hown, -, hts, -⟩ := id C0
  refine lv_bipush (v := (-9 : Int32)) hx hb dX0_bestDrift_0 (by decide) ?_
  refine lv_istore_n (lv' := [(3, .int (-9 : Int32)), (0, .ref (ad x0)), (1, .ref (ad x1)), (2, .int x2)]) hx hb dX0_bestDrift_2 rfl hl (by decide) rfl (fun ls hl => ?_)
  refine lv_lconst (v := (0 : Int64)) hx hb dX0_bestDrift_3 (by decide) ?_
  refine lv_lstore (lv' := [(4, .long (0 : Int64)), (3, .int (-9 : Int32)), (0, .ref (ad x0)), (1, .ref (ad x1)), (2, .int x2)]) hx hb dX0_bestDrift_4 hl (by decide) rfl (fun ls hl => ?_)
  refine lv_lconst (v := (0 : Int64)) hx hb dX0_bestDrift_6 (by decide) ?_
  refine lv_lstore (lv' := [(6, .long (0 : Int64)), (4, .long (0 : Int64)), (3, .int (-9 : Int32)), (0, .ref (ad x0)), (1, .ref (ad x1)), (2, .int x2)]) hx hb dX0_bestDrift_7 hl (by decide) rfl (fun ls hl => ?_)
  refine lv_iload_n hx hb dX0_bestDrift_9 rfl (lv_at hl 5 rfl) ?_
  refine lv_ineg hx hb dX0_bestDrift_10 ?_
  obtain ⟨v11, hv, hF⟩ := ob hF
  have hv := vtI hv
  refine vtopi hv ?_
  refine lv_istore (lv' := [(8, .int v11), (6, .long (0 : Int64)), (4, .long (0 : Int64)), (3, .int (-9 : Int32)), (0, .ref (ad x0)), (1, .ref (ad x1)), (2, .int x2)]) hx hb dX0_bestDrift_11 hl (by decide) rfl (fun ls hl => ?_)
  exact Kh0 _ _ _ _ _ _ _ _ (Option.some.inj hF).symm _ _ _ M (lv_sub hl [4, 5, 6, 3, 2, 1, 0] rfl)
set_option maxHeartbeats 4000000 in
set_option maxRecDepth 100000 in
theorem wX0_bestDrift_13 {p : Program} {l : Launch} {e : Env} {s : State} {m : MethodId} {args : Array Value} {below : List Frame} {meth : Method} {c : Code} {D : va_G} {cy : Nat → ClassId} (ad : Nat → Nat) (A : Nat → Prop) {S : MS} {S' : MS} {H : Heap} {locs : List Loc} {n0 : Nat} {r : Int32} {out : (((Nat × Nat × Int32 × Int32 × Int64 × Int64 × Int32 × MS) ⊕ (Nat × Nat × Int32 × Int32 × Int64 × Int64 × Int32 × Int32 × MS)) ⊕ (Int32 × MS))} {ls : Array Slot} {x0 : Nat} {x1 : Nat} {x2 : Int32} {x3 : Int32} {x4 : Int64} {x6 : Int64} {x8 : Int32} (C0 : CX p s m args meth c RX0 cX0_bestDrift 11 D cy) (M : ST D cy ad A s.heap (ZN n0 s.heap.size) S H locs) (hr : meth.sig.returnType = some .int) (hF : bX0_bestDrift_13 S x0 x1 x2 x3 x4 x6 x8 = some out) (hl : lv_has ls 11 [(0, .ref (ad x0)), (1, .ref (ad x1)), (2, .int x2), (3, .int x3), (4, .long x4), (6, .long x6), (8, .int x8)]) (Kr : ∀ r9, out = .inr r9 → r9 = (r, S')) (Kh0 : ∀ (y0 : Nat) (y1 : Nat) (y2 : Int32) (y3 : Int32) (y4 : Int64) (y5 : Int64) (y6 : Int32) (S2 : MS), out = .inl (.inl (y0, y1, y2, y3, y4, y5, y6, S2)) → ∀ (H1 : Heap) (locs1 : List Loc) (ls1 : Array Slot), ST D cy ad A s.heap (ZN n0 s.heap.size) S2 H1 locs1 → lv_has ls1 11 [(0, .ref (ad y0)), (1, .ref (ad y1)), (2, .int y2), (3, .int y3), (4, .long y4), (6, .long y5), (8, .int y6)] → W p l e rmX0_bestDrift s m args below meth c H1 locs1 0 0 (MQ below (QcM D cy ad A n0 S' (some (.int r))) args s 0 0 A) (F0 m 13 ls1 [])) (Kh1 : ∀ (y0 : Nat) (y1 : Nat) (y2 : Int32) (y3 : Int32) (y4 : Int64) (y5 : Int64) (y6 : Int32) (y7 : Int32) (S2 : MS), out = .inl (.inr (y0, y1, y2, y3, y4, y5, y6, y7, S2)) → ∀ (H1 : Heap) (locs1 : List Loc) (ls1 : Array Slot), ST D cy ad A s.heap (ZN n0 s.heap.size) S2 H1 locs1 → lv_has ls1 11 [(0, .ref (ad y0)), (1, .ref (ad y1)), (2, .int y2), (3, .int y3), (4, .long y4), (6, .long y5), (8, .int y6), (9, .int y7)] → W p l e rmX0_bestDrift s m args below meth c H1 locs1 0 0 (MQ below (QcM D cy ad A n0 S' (some (.int r))) args s 0 0 A) (F0 m 23 ls1 [])) : W p l e rmX0_bestDrift s m args below meth c H locs 0 0 (MQ below (QcM D cy ad A n0 S' (some (.int r))) args s 0 0 A) (F0 m 13 ls []) := by
  unfold bX0_bestDrift_13 at hF
  obtain ⟨hx, hb, -, hown, -, hts, -⟩ := id C0
  refine lv_iload hx hb dX0_bestDrift_13 (lv_at hl 6 rfl) ?_
  refine lv_iload_n hx hb dX0_bestDrift_15 rfl (lv_at hl 2 rfl) ?_
  refine lv_icmp_gt (tgt := 124) hx hb dX0_bestDrift_16 (by decide) (fun hc => ?_) (fun hc => ?_)
  · have hF := oi_t hc hF
    refine lv_iload_n hx hb dX0_bestDrift_124 rfl (lv_at hl 3 rfl) ?_
    obtain ⟨rfl, rfl⟩ := Prod.mk.inj (Kr _ (Option.some.inj hF).symm)
    exact rt_MI C0 M hr dX0_bestDrift_125
  · have hF := oi_f hc hF
    refine lv_iload_n hx hb dX0_bestDrift_19 rfl (lv_at hl 2 rfl) ?_
    refine lv_ineg hx hb dX0_bestDrift_20 ?_
    obtain ⟨v21, hv, hF⟩ := ob hF
    have hv := vtI hv
    refine vtopi hv ?_
    refine lv_istore (lv' := [(9, .int v21), (0, .ref (ad x0)), (1, .ref (ad x1)), (2, .int x2), (3, .int x3), (4, .long x4), (6, .long x6), (8, .int x8)]) hx hb dX0_bestDrift_21 hl (by decide) rfl (fun ls hl => ?_)
    exact Kh1 _ _ _ _ _ _ _ _ _ (Option.some.inj hF).symm _ _ _ M (lv_sub hl [1, 2, 3, 4, 5, 6, 7, 0] rfl)
set_option maxHeartbeats 4000000 in
set_option maxRecDepth 100000 in
theorem wX0_bestDrift_112 {p : Program} {l : Launch} {e : Env} {s : State} {m : MethodId} {args : Array Value} {below : List Frame} {meth : Method} {c : Code} {D : va_G} {cy : Nat → ClassId} (ad : Nat → Nat) (A : Nat → Prop) {S : MS} {S' : MS} {H : Heap} {locs : List Loc} {n0 : Nat} {r : Int32} {out : (((Nat × Nat × Int32 × Int32 × Int64 × Int64 × Int32 × MS) ⊕ (Nat × Nat × Int32 × Int32 × Int64 × Int64 × Int32 × Int32 × MS)) ⊕ (Int32 × MS))} {ls : Array Slot} {x0 : Nat} {x1 : Nat} {x2 : Int32} {x3 : Int32} {x4 : Int64} {x6 : Int64} {x8 : Int32} {x9 : Int32} (C0 : CX p s m args meth c RX0 cX0_bestDrift 11 D cy) (M : ST D cy ad A s.heap (ZN n0 s.heap.size) S H locs) (hr : meth.sig.returnType = some .int) (hF : bX0_bestDrift_112 S x0 x1 x2 x3 x4 x6 x8 x9 = some out) (hl : lv_has ls 11 [(0, .ref (ad x0)), (1, .ref (ad x1)), (2, .int x2), (3, .int x3), (4, .long x4), (6, .long x6), (8, .int x8), (9, .int x9)]) (Kr : ∀ r9, out = .inr r9 → r9 = (r, S')) (Kh0 : ∀ (y0 : Nat) (y1 : Nat) (y2 : Int32) (y3 : Int32) (y4 : Int64) (y5 : Int64) (y6 : Int32) (S2 : MS), out = .inl (.inl (y0, y1, y2, y3, y4, y5, y6, S2)) → ∀ (H1 : Heap) (locs1 : List Loc) (ls1 : Array Slot), ST D cy ad A s.heap (ZN n0 s.heap.size) S2 H1 locs1 → lv_has ls1 11 [(0, .ref (ad y0)), (1, .ref (ad y1)), (2, .int y2), (3, .int y3), (4, .long y4), (6, .long y5), (8, .int y6)] → W p l e rmX0_bestDrift s m args below meth c H1 locs1 0 0 (MQ below (QcM D cy ad A n0 S' (some (.int r))) args s 0 0 A) (F0 m 13 ls1 [])) (Kh1 : ∀ (y0 : Nat) (y1 : Nat) (y2 : Int32) (y3 : Int32) (y4 : Int64) (y5 : Int64) (y6 : Int32) (y7 : Int32) (S2 : MS), out = .inl (.inr (y0, y1, y2, y3, y4, y5, y6, y7, S2)) → ∀ (H1 : Heap) (locs1 : List Loc) (ls1 : Array Slot), ST D cy ad A s.heap (ZN n0 s.heap.size) S2 H1 locs1 → lv_has ls1 11 [(0, .ref (ad y0)), (1, .ref (ad y1)), (2, .int y2), (3, .int y3), (4, .long y4), (6, .long y5), (8, .int y6), (9, .int y7)] → W p l e rmX0_bestDrift s m args below meth c H1 locs1 0 0 (MQ below (QcM D cy ad A n0 S' (some (.int r))) args s 0 0 A) (F0 m 23 ls1 [])) : W p l e rmX0_bestDrift s m args below meth c H locs 0 0 (MQ below (QcM D cy ad A n0 S' (some (.int r))) args s 0 0 A) (F0 m 112 ls []) := by
  unfold bX0_bestDrift_112 at hF
  obtain ⟨hx, hb, -, hown, -, hts, -⟩ := id C0
  obtain ⟨v112, hv, hF⟩ := ob hF
  refine lv_iinc (v := v112) (lv' := [(9, .int v112), (0, .ref (ad x0)), (1, .ref (ad x1)), (2, .int x2), (3, .int x3), (4, .long x4), (6, .long x6), (8, .int x8)]) hx hb dX0_bestDrift_112 hl (k := 7) rfl (by rw [← vtI hv]; rfl) (by decide) rfl (fun ls hl => ?_)
  refine lv_goto (tgt := 23) hx hb dX0_bestDrift_115 (by decide) ?_
  exact Kh1 _ _ _ _ _ _ _ _ _ (Option.some.inj hF).symm _ _ _ M (lv_sub hl [1, 2, 3, 4, 5, 6, 7, 0] rfl)
set_option maxHeartbeats 4000000 in
set_option maxRecDepth 100000 in
theorem wX0_bestDrift_69 {p : Program} {l : Launch} {e : Env} {s : State} {m : MethodId} {args : Array Value} {below : List Frame} {meth : Method} {c : Code} {D : va_G} {cy : Nat → ClassId} (ad : Nat → Nat) (A : Nat → Prop) {S : MS} {S' : MS} {H : Heap} {locs : List Loc} {n0 : Nat} {r : Int32} {out : (((Nat × Nat × Int32 × Int32 × Int64 × Int64 × Int32 × MS) ⊕ (Nat × Nat × Int32 × Int32 × Int64 × Int64 × Int32 × Int32 × MS)) ⊕ (Int32 × MS))} {ls : Array Slot} {x0 : Nat} {x1 : Nat} {x2 : Int32} {x3 : Int32} {x4 : Int64} {x6 : Int64} {x8 : Int32} {x9 : Int32} {z0 : Int32} (C0 : CX p s m args meth c RX0 cX0_bestDrift 11 D cy) (M : ST D cy ad A s.heap (ZN n0 s.heap.size) S H locs) (hr : meth.sig.returnType = some .int) (hF : bX0_bestDrift_69 S x0 x1 x2 x3 x4 x6 x8 x9 z0 = some out) (hl : lv_has ls 11 [(0, .ref (ad x0)), (1, .ref (ad x1)), (2, .int x2), (3, .int x3), (4, .long x4), (6, .long x6), (8, .int x8), (9, .int x9)]) (Kr : ∀ r9, out = .inr r9 → r9 = (r, S')) (Kh0 : ∀ (y0 : Nat) (y1 : Nat) (y2 : Int32) (y3 : Int32) (y4 : Int64) (y5 : Int64) (y6 : Int32) (S2 : MS), out = .inl (.inl (y0, y1, y2, y3, y4, y5, y6, S2)) → ∀ (H1 : Heap) (locs1 : List Loc) (ls1 : Array Slot), ST D cy ad A s.heap (ZN n0 s.heap.size) S2 H1 locs1 → lv_has ls1 11 [(0, .ref (ad y0)), (1, .ref (ad y1)), (2, .int y2), (3, .int y3), (4, .long y4), (6, .long y5), (8, .int y6)] → W p l e rmX0_bestDrift s m args below meth c H1 locs1 0 0 (MQ below (QcM D cy ad A n0 S' (some (.int r))) args s 0 0 A) (F0 m 13 ls1 [])) (Kh1 : ∀ (y0 : Nat) (y1 : Nat) (y2 : Int32) (y3 : Int32) (y4 : Int64) (y5 : Int64) (y6 : Int32) (y7 : Int32) (S2 : MS), out = .inl (.inr (y0, y1, y2, y3, y4, y5, y6, y7, S2)) → ∀ (H1 : Heap) (locs1 : List Loc) (ls1 : Array Slot), ST D cy ad A s.heap (ZN n0 s.heap.size) S2 H1 locs1 → lv_has ls1 11 [(0, .ref (ad y0)), (1, .ref (ad y1)), (2, .int y2), (3, .int y3), (4, .long y4), (6, .long y5), (8, .int y6), (9, .int y7)] → W p l e rmX0_bestDrift s m args below meth c H1 locs1 0 0 (MQ below (QcM D cy ad A n0 S' (some (.int r))) args s 0 0 A) (F0 m 23 ls1 [])) : W p l e rmX0_bestDrift s m args below meth c H locs 0 0 (MQ below (QcM D cy ad A n0 S' (some (.int r))) args s 0 0 A) (F0 m 69 ls [.int z0]) := by
  unfold bX0_bestDrift_69 at hF
  obtain ⟨hx, hb, -, hown, -, hts, -⟩ := id C0
  refine lv_istore (lv' := [(10, .int z0), (0, .ref (ad x0)), (1, .ref (ad x1)), (2, .int x2), (3, .int x3), (4, .long x4), (6, .long x6), (8, .int x8), (9, .int x9)]) hx hb dX0_bestDrift_69 hl (by decide) rfl (fun ls hl => ?_)
  refine lv_aload_n hx hb dX0_bestDrift_71 rfl (lv_at hl 1 rfl) ?_
  obtain ⟨v72, hv, hF⟩ := ob hF
  refine k_getI C0 M.1 hv fl_X0_28 dX0_bestDrift_72 ?_
  refine lv_if_le (tgt := 112) hx hb dX0_bestDrift_75 (by decide) (fun hc => ?_) (fun hc => ?_)
  · have hF := oi_t hc hF
    exact wX0_bestDrift_112 ad A C0 M hr hF (lv_sub hl [1, 2, 3, 4, 5, 6, 7, 8] rfl) Kr Kh0 Kh1
  · have hF := oi_f hc hF
    refine lv_iload hx hb dX0_bestDrift_78 (lv_at hl 0 rfl) ?_
    refine lv_if_eq (tgt := 112) hx hb dX0_bestDrift_80 (by decide) (fun hc => ?_) (fun hc => ?_)
    · have hF := oi_t hc hF
      exact wX0_bestDrift_112 ad A C0 M hr hF (lv_sub hl [1, 2, 3, 4, 5, 6, 7, 8] rfl) Kr Kh0 Kh1
    · have hF := oi_f hc hF
      refine lv_bipush (v := (100 : Int32)) hx hb dX0_bestDrift_83 (by decide) ?_
      refine lv_iload hx hb dX0_bestDrift_85 (lv_at hl 7 rfl) ?_
      refine lv_bipush (v := (11 : Int32)) hx hb dX0_bestDrift_87 (by decide) ?_
      refine lv_iadd hx hb dX0_bestDrift_89 ?_
      refine lv_imul hx hb dX0_bestDrift_90 ?_
      refine lv_iload hx hb dX0_bestDrift_91 (lv_at hl 8 rfl) ?_
      refine lv_iadd hx hb dX0_bestDrift_93 ?_
      refine lv_bipush (v := (11 : Int32)) hx hb dX0_bestDrift_94 (by decide) ?_
      refine lv_iadd hx hb dX0_bestDrift_96 ?_
      obtain ⟨v97, hv, hF⟩ := ob hF
      have hv := vtI hv
      refine vtopi hv ?_
      refine lv_istore_n (lv' := [(3, .int v97), (10, .int z0), (0, .ref (ad x0)), (1, .ref (ad x1)), (2, .int x2), (4, .long x4), (6, .long x6), (8, .int x8), (9, .int x9)]) hx hb dX0_bestDrift_97 rfl hl (by decide) rfl (fun ls hl => ?_)
      refine lv_aload_n hx hb dX0_bestDrift_98 rfl (lv_at hl 2 rfl) ?_
      obtain ⟨v99, hv, hF⟩ := ob hF
      refine k_getI C0 M.1 hv fl_X0_31 dX0_bestDrift_99 ?_
      refine lv_i2l (v := (v99.toInt64)) hx hb dX0_bestDrift_102 rfl ?_
      obtain ⟨v103, hv, hF⟩ := ob hF
      have hv := vtI hv
      refine vtopl hv ?_
      refine lv_lstore (lv' := [(4, .long v103), (3, .int v97), (10, .int z0), (0, .ref (ad x0)), (1, .ref (ad x1)), (2, .int x2), (6, .long x6), (8, .int x8), (9, .int x9)]) hx hb dX0_bestDrift_103 hl (by decide) rfl (fun ls hl => ?_)
      refine lv_aload_n hx hb dX0_bestDrift_105 rfl (lv_at hl 3 rfl) ?_
      obtain ⟨v106, hv, hF⟩ := ob hF
      refine k_getI C0 M.1 hv fl_X0_28 dX0_bestDrift_106 ?_
      refine lv_i2l (v := (v106.toInt64)) hx hb dX0_bestDrift_109 rfl ?_
      obtain ⟨v110, hv, hF⟩ := ob hF
      have hv := vtI hv
      refine vtopl hv ?_
      refine lv_lstore (lv' := [(6, .long v110), (4, .long v103), (3, .int v97), (10, .int z0), (0, .ref (ad x0)), (1, .ref (ad x1)), (2, .int x2), (8, .int x8), (9, .int x9)]) hx hb dX0_bestDrift_110 hl (by decide) rfl (fun ls hl => ?_)
      exact wX0_bestDrift_112 ad A C0 M hr hF (lv_sub hl [4, 5, 6, 2, 1, 0, 7, 8] rfl) Kr Kh0 Kh1
set_option maxHeartbeats 4000000 in
set_option maxRecDepth 100000 in
theorem wX0_bestDrift_64 {p : Program} {l : Launch} {e : Env} {s : State} {m : MethodId} {args : Array Value} {below : List Frame} {meth : Method} {c : Code} {D : va_G} {cy : Nat → ClassId} (ad : Nat → Nat) (A : Nat → Prop) {S : MS} {S' : MS} {H : Heap} {locs : List Loc} {n0 : Nat} {r : Int32} {out : (((Nat × Nat × Int32 × Int32 × Int64 × Int64 × Int32 × MS) ⊕ (Nat × Nat × Int32 × Int32 × Int64 × Int64 × Int32 × Int32 × MS)) ⊕ (Int32 × MS))} {ls : Array Slot} {x0 : Nat} {x1 : Nat} {x2 : Int32} {x3 : Int32} {x4 : Int64} {x6 : Int64} {x8 : Int32} {x9 : Int32} (C0 : CX p s m args meth c RX0 cX0_bestDrift 11 D cy) (M : ST D cy ad A s.heap (ZN n0 s.heap.size) S H locs) (hr : meth.sig.returnType = some .int) (hF : bX0_bestDrift_64 S x0 x1 x2 x3 x4 x6 x8 x9 = some out) (hl : lv_has ls 11 [(0, .ref (ad x0)), (1, .ref (ad x1)), (2, .int x2), (3, .int x3), (4, .long x4), (6, .long x6), (8, .int x8), (9, .int x9)]) (Kr : ∀ r9, out = .inr r9 → r9 = (r, S')) (Kh0 : ∀ (y0 : Nat) (y1 : Nat) (y2 : Int32) (y3 : Int32) (y4 : Int64) (y5 : Int64) (y6 : Int32) (S2 : MS), out = .inl (.inl (y0, y1, y2, y3, y4, y5, y6, S2)) → ∀ (H1 : Heap) (locs1 : List Loc) (ls1 : Array Slot), ST D cy ad A s.heap (ZN n0 s.heap.size) S2 H1 locs1 → lv_has ls1 11 [(0, .ref (ad y0)), (1, .ref (ad y1)), (2, .int y2), (3, .int y3), (4, .long y4), (6, .long y5), (8, .int y6)] → W p l e rmX0_bestDrift s m args below meth c H1 locs1 0 0 (MQ below (QcM D cy ad A n0 S' (some (.int r))) args s 0 0 A) (F0 m 13 ls1 [])) (Kh1 : ∀ (y0 : Nat) (y1 : Nat) (y2 : Int32) (y3 : Int32) (y4 : Int64) (y5 : Int64) (y6 : Int32) (y7 : Int32) (S2 : MS), out = .inl (.inr (y0, y1, y2, y3, y4, y5, y6, y7, S2)) → ∀ (H1 : Heap) (locs1 : List Loc) (ls1 : Array Slot), ST D cy ad A s.heap (ZN n0 s.heap.size) S2 H1 locs1 → lv_has ls1 11 [(0, .ref (ad y0)), (1, .ref (ad y1)), (2, .int y2), (3, .int y3), (4, .long y4), (6, .long y5), (8, .int y6), (9, .int y7)] → W p l e rmX0_bestDrift s m args below meth c H1 locs1 0 0 (MQ below (QcM D cy ad A n0 S' (some (.int r))) args s 0 0 A) (F0 m 23 ls1 [])) : W p l e rmX0_bestDrift s m args below meth c H locs 0 0 (MQ below (QcM D cy ad A n0 S' (some (.int r))) args s 0 0 A) (F0 m 64 ls []) := by
  unfold bX0_bestDrift_64 at hF
  obtain ⟨hx, hb, -, hown, -, hts, -⟩ := id C0
  refine lv_iconst (v := (1 : Int32)) hx hb dX0_bestDrift_64 (by decide) ?_
  refine lv_goto (tgt := 69) hx hb dX0_bestDrift_65 (by decide) ?_
  exact wX0_bestDrift_69 ad A C0 M hr hF (lv_sub hl [0, 1, 2, 3, 4, 5, 6, 7] rfl) Kr Kh0 Kh1
set_option maxHeartbeats 4000000 in
set_option maxRecDepth 100000 in
theorem wX0_bestDrift_23 {p : Program} {l : Launch} {e : Env} {s : State} {m : MethodId} {args : Array Value} {below : List Frame} {meth : Method} {c : Code} {D : va_G} {cy : Nat → ClassId} (ad : Nat → Nat) (A : Nat → Prop) {S : MS} {S' : MS} {H : Heap} {locs : List Loc} {n0 : Nat} {r : Int32} {out : (((Nat × Nat × Int32 × Int32 × Int64 × Int64 × Int32 × MS) ⊕ (Nat × Nat × Int32 × Int32 × Int64 × Int64 × Int32 × Int32 × MS)) ⊕ (Int32 × MS))} {ls : Array Slot} {x0 : Nat} {x1 : Nat} {x2 : Int32} {x3 : Int32} {x4 : Int64} {x6 : Int64} {x8 : Int32} {x9 : Int32} (C0 : CX p s m args meth c RX0 cX0_bestDrift 11 D cy) (M : ST D cy ad A s.heap (ZN n0 s.heap.size) S H locs) (hr : meth.sig.returnType = some .int) (hF : bX0_bestDrift_23 S x0 x1 x2 x3 x4 x6 x8 x9 = some out) (hl : lv_has ls 11 [(0, .ref (ad x0)), (1, .ref (ad x1)), (2, .int x2), (3, .int x3), (4, .long x4), (6, .long x6), (8, .int x8), (9, .int x9)]) (Kr : ∀ r9, out = .inr r9 → r9 = (r, S')) (Kh0 : ∀ (y0 : Nat) (y1 : Nat) (y2 : Int32) (y3 : Int32) (y4 : Int64) (y5 : Int64) (y6 : Int32) (S2 : MS), out = .inl (.inl (y0, y1, y2, y3, y4, y5, y6, S2)) → ∀ (H1 : Heap) (locs1 : List Loc) (ls1 : Array Slot), ST D cy ad A s.heap (ZN n0 s.heap.size) S2 H1 locs1 → lv_has ls1 11 [(0, .ref (ad y0)), (1, .ref (ad y1)), (2, .int y2), (3, .int y3), (4, .long y4), (6, .long y5), (8, .int y6)] → W p l e rmX0_bestDrift s m args below meth c H1 locs1 0 0 (MQ below (QcM D cy ad A n0 S' (some (.int r))) args s 0 0 A) (F0 m 13 ls1 [])) (Kh1 : ∀ (y0 : Nat) (y1 : Nat) (y2 : Int32) (y3 : Int32) (y4 : Int64) (y5 : Int64) (y6 : Int32) (y7 : Int32) (S2 : MS), out = .inl (.inr (y0, y1, y2, y3, y4, y5, y6, y7, S2)) → ∀ (H1 : Heap) (locs1 : List Loc) (ls1 : Array Slot), ST D cy ad A s.heap (ZN n0 s.heap.size) S2 H1 locs1 → lv_has ls1 11 [(0, .ref (ad y0)), (1, .ref (ad y1)), (2, .int y2), (3, .int y3), (4, .long y4), (6, .long y5), (8, .int y6), (9, .int y7)] → W p l e rmX0_bestDrift s m args below meth c H1 locs1 0 0 (MQ below (QcM D cy ad A n0 S' (some (.int r))) args s 0 0 A) (F0 m 23 ls1 [])) : W p l e rmX0_bestDrift s m args below meth c H locs 0 0 (MQ below (QcM D cy ad A n0 S' (some (.int r))) args s 0 0 A) (F0 m 23 ls []) := by
  unfold bX0_bestDrift_23 at hF
  obtain ⟨hx, hb, -, hown, -, hts, -⟩ := id C0
  refine lv_iload hx hb dX0_bestDrift_23 (lv_at hl 7 rfl) ?_
  refine lv_iload_n hx hb dX0_bestDrift_25 rfl (lv_at hl 2 rfl) ?_
  refine lv_icmp_gt (tgt := 118) hx hb dX0_bestDrift_26 (by decide) (fun hc => ?_) (fun hc => ?_)
  · have hF := oi_t hc hF
    obtain ⟨v118, hv, hF⟩ := ob hF
    refine lv_iinc (v := v118) (lv' := [(8, .int v118), (0, .ref (ad x0)), (1, .ref (ad x1)), (2, .int x2), (3, .int x3), (4, .long x4), (6, .long x6), (9, .int x9)]) hx hb dX0_bestDrift_118 hl (k := 6) rfl (by rw [← vtI hv]; rfl) (by decide) rfl (fun ls hl => ?_)
    refine lv_goto (tgt := 13) hx hb dX0_bestDrift_121 (by decide) ?_
    exact Kh0 _ _ _ _ _ _ _ _ (Option.some.inj hF).symm _ _ _ M (lv_sub hl [1, 2, 3, 4, 5, 6, 0] rfl)
  · have hF := oi_f hc hF
    refine lv_aload_n hx hb dX0_bestDrift_29 rfl (lv_at hl 0 rfl) ?_
    refine lv_iload hx hb dX0_bestDrift_30 (lv_at hl 6 rfl) ?_
    refine lv_iload hx hb dX0_bestDrift_32 (lv_at hl 7 rfl) ?_
    refine lv_aload_n hx hb dX0_bestDrift_34 rfl (lv_at hl 1 rfl) ?_
    obtain ⟨_, hrec, hF⟩ := ob hF
    obtain ⟨S35, hcl, hF⟩ := ob hF
    refine go_MV (r_V (rest := []) (As := [.int x8, .int x9, .ref (ad x1)]) C0 cb_X0_124 M.1 hrec (tX0_compare l D cy ad A hcl) (pre_R C0 M.1) hl dX0_bestDrift_35 rfl (Nat.le_of_ble_eq_true rfl) ⟨rfl, rfl⟩ ⟨Nat.le_of_ble_eq_true rfl, Nat.le_of_ble_eq_true rfl⟩ ⟨Nat.le_of_ble_eq_true rfl, Nat.le_of_ble_eq_true rfl⟩ rfl) M (fun H locs M => ?_)
    refine lv_iload_n hx hb dX0_bestDrift_38 rfl (lv_at hl 3 rfl) ?_
    refine lv_bipush (v := (-9 : Int32)) hx hb dX0_bestDrift_39 (by decide) ?_
    refine lv_icmp_eq (tgt := 64) hx hb dX0_bestDrift_41 (by decide) (fun hc => ?_) (fun hc => ?_)
    · have hF := oi_t hc hF
      exact wX0_bestDrift_64 ad A C0 M hr hF (lv_sub hl [0, 1, 2, 3, 4, 5, 6, 7] rfl) Kr Kh0 Kh1
    · have hF := oi_f hc hF
      refine lv_aload_n hx hb dX0_bestDrift_44 rfl (lv_at hl 0 rfl) ?_
      obtain ⟨v45, hv, hF⟩ := ob hF
      refine k_getI C0 M.1 hv fl_X0_31 dX0_bestDrift_45 ?_
      refine lv_i2l (v := (v45.toInt64)) hx hb dX0_bestDrift_48 rfl ?_
      refine lv_lload hx hb dX0_bestDrift_49 (lv_at hl 5 rfl) ?_
      refine lv_lmul hx hb dX0_bestDrift_51 ?_
      refine lv_lload hx hb dX0_bestDrift_52 (lv_at hl 4 rfl) ?_
      refine lv_aload_n hx hb dX0_bestDrift_54 rfl (lv_at hl 0 rfl) ?_
      obtain ⟨v55, hv, hF⟩ := ob hF
      refine k_getI C0 M.1 hv fl_X0_28 dX0_bestDrift_55 ?_
      refine lv_i2l (v := (v55.toInt64)) hx hb dX0_bestDrift_58 rfl ?_
      refine lv_lmul hx hb dX0_bestDrift_59 ?_
      refine W.lcmp hx hb dX0_bestDrift_60 ?_
      refine lv_if_ge (tgt := 68) hx hb dX0_bestDrift_61 (by decide) (fun hc => ?_) (fun hc => ?_)
      · have hF := oi_t hc hF
        refine lv_iconst (v := (0 : Int32)) hx hb dX0_bestDrift_68 (by decide) ?_
        exact wX0_bestDrift_69 ad A C0 M hr hF (lv_sub hl [0, 1, 2, 3, 4, 5, 6, 7] rfl) Kr Kh0 Kh1
      · have hF := oi_f hc hF
        exact wX0_bestDrift_64 ad A C0 M hr hF (lv_sub hl [0, 1, 2, 3, 4, 5, 6, 7] rfl) Kr Kh0 Kh1
set_option maxHeartbeats 4000000 in
set_option maxRecDepth 100000 in
theorem tX0_bestDrift (l : Launch) (D : va_G) (cy : Nat → ClassId) (ad : Nat → Nat) (A : Nat → Prop) {S S' : MS} {a0 : Nat} {a1 : Nat} {a2 : Int32} {r : Int32} (h : fX0_bestDrift S a0 a1 a2 = some (r, S')) : Met l yX0_bestDrift [Cond.code yX0_bestDrift cX0_bestDrift 11 (some .int)] rmX0_bestDrift (PcR D cy ad A S [.ref (ad a0), .ref (ad a1), .int a2]) (QcM D cy ad A (m_n S) S' (some (.int r))) 0 0 A := by
  refine met_M (by decide +kernel) cw_X0_bestDrift (Nat.le_of_ble_eq_true rfl) ?_
  intro p e s m args below meth c ls C0 M hr hin hl
  have hl : lv_has ls 11 [(0, .ref (ad a0)), (1, .ref (ad a1)), (2, .int a2)] := hl
  have key := lim_walk (step := sX0_bestDrift) (fun (q : ((Nat × Nat × Int32 × Int32 × Int64 × Int64 × Int32 × MS) ⊕ (Nat × Nat × Int32 × Int32 × Int64 × Int64 × Int32 × Int32 × MS))) (r9 : (Int32 × MS)) => ∀ (r : Int32) (S' : MS), r9 = (r, S') → ((∀ (y0 : Nat) (y1 : Nat) (y2 : Int32) (y3 : Int32) (y4 : Int64) (y5 : Int64) (y6 : Int32) (S2 : MS), q = (.inl (y0, y1, y2, y3, y4, y5, y6, S2)) → ∀ (H1 : Heap) (locs1 : List Loc) (ls1 : Array Slot), ST D cy ad A s.heap (ZN (m_n S) s.heap.size) S2 H1 locs1 → lv_has ls1 11 [(0, .ref (ad y0)), (1, .ref (ad y1)), (2, .int y2), (3, .int y3), (4, .long y4), (6, .long y5), (8, .int y6)] → W p l e rmX0_bestDrift s m args below meth c H1 locs1 0 0 (MQ below (QcM D cy ad A (m_n S) S' (some (.int r))) args s 0 0 A) (F0 m 13 ls1 [])) ∧ (∀ (y0 : Nat) (y1 : Nat) (y2 : Int32) (y3 : Int32) (y4 : Int64) (y5 : Int64) (y6 : Int32) (y7 : Int32) (S2 : MS), q = (.inr (y0, y1, y2, y3, y4, y5, y6, y7, S2)) → ∀ (H1 : Heap) (locs1 : List Loc) (ls1 : Array Slot), ST D cy ad A s.heap (ZN (m_n S) s.heap.size) S2 H1 locs1 → lv_has ls1 11 [(0, .ref (ad y0)), (1, .ref (ad y1)), (2, .int y2), (3, .int y3), (4, .long y4), (6, .long y5), (8, .int y6), (9, .int y7)] → W p l e rmX0_bestDrift s m args below meth c H1 locs1 0 0 (MQ below (QcM D cy ad A (m_n S) S' (some (.int r))) args s 0 0 A) (F0 m 23 ls1 [])))) ?_
  · unfold fX0_bestDrift at h
    cases hs0 : bX0_bestDrift_0 S a0 a1 a2 with
    | none => rw [hs0] at h; cases h
    | some out =>
      rw [hs0] at h
      refine wX0_bestDrift_0 ad A C0 M hr hs0 hl (fun r9 hr9 => ?_) ?_ ?_
      · subst hr9; exact Option.some.inj h
      · intro y0 y1 y2 y3 y4 y5 y6 y7 hq; subst hq; exact (key _ _ h _ _ rfl).1 _ _ _ _ _ _ _ _ rfl
      · intro y0 y1 y2 y3 y4 y5 y6 y7 y8 hq; subst hq; exact (key _ _ h _ _ rfl).2 _ _ _ _ _ _ _ _ _ rfl
  · intro q r9 out hst hre hin9
    intro r S' er; subst er
    refine ⟨?_, ?_⟩
    · intro y0 y1 y2 y3 y4 y5 y6 y7 hq H1 locs1 ls1 M hl
      subst hq
      exact wX0_bestDrift_13 ad A C0 M hr hst hl hre (fun k0 k1 k2 k3 k4 k5 k6 k7 hk => (hin9 _ hk _ _ rfl).1 _ _ _ _ _ _ _ _ rfl) (fun k0 k1 k2 k3 k4 k5 k6 k7 k8 hk => (hin9 _ hk _ _ rfl).2 _ _ _ _ _ _ _ _ _ rfl)
    · intro y0 y1 y2 y3 y4 y5 y6 y7 y8 hq H1 locs1 ls1 M hl
      subst hq
      exact wX0_bestDrift_23 ad A C0 M hr hst hl hre (fun k0 k1 k2 k3 k4 k5 k6 k7 hk => (hin9 _ hk _ _ rfl).1 _ _ _ _ _ _ _ _ rfl) (fun k0 k1 k2 k3 k4 k5 k6 k7 k8 hk => (hin9 _ hk _ _ rfl).2 _ _ _ _ _ _ _ _ _ rfl)
set_option maxHeartbeats 4000000 in
set_option maxRecDepth 100000 in
theorem wX9_drift_61 {p : Program} {l : Launch} {e : Env} {s : State} {m : MethodId} {args : Array Value} {below : List Frame} {meth : Method} {c : Code} {D : va_G} {cy : Nat → ClassId} (ad : Nat → Nat) (A : Nat → Prop) {S : MS} {S' : MS} {H : Heap} {locs : List Loc} {n0 : Nat} {r : Int32} {ls : Array Slot} {z0 : Int32} (C0 : CX p s m args meth c RX9 cX9_drift 4 D cy) (M : ST D cy ad A s.heap (ZN n0 s.heap.size) S H locs) (hr : meth.sig.returnType = some .int) (hF : bX9_drift_61 S z0 = some (r, S')) (hl : lv_has ls 4 []) : W p l e rmX9_drift s m args below meth c H locs 0 0 (MQ below (QcM D cy ad A n0 S' (some (.int r))) args s 0 0 A) (F0 m 61 ls [.int z0]) := by
  unfold bX9_drift_61 at hF
  obtain ⟨hx, hb, -, hown, -, hts, -⟩ := id C0
  obtain ⟨rfl, rfl⟩ := Prod.mk.inj (Option.some.inj hF)
  exact rt_MI C0 M hr dX9_drift_61
set_option maxHeartbeats 4000000 in
set_option maxRecDepth 100000 in
theorem wX9_drift_0 {p : Program} {l : Launch} {e : Env} {s : State} {m : MethodId} {args : Array Value} {below : List Frame} {meth : Method} {c : Code} {D : va_G} {cy : Nat → ClassId} (ad : Nat → Nat) (A : Nat → Prop) {S : MS} {S' : MS} {H : Heap} {locs : List Loc} {n0 : Nat} {r : Int32} {ls : Array Slot} {x0 : Nat} {x1 : Int32} {x2 : Int32} (C0 : CX p s m args meth c RX9 cX9_drift 4 D cy) (M : ST D cy ad A s.heap (ZN n0 s.heap.size) S H locs) (hr : meth.sig.returnType = some .int) (hF : bX9_drift_0 S x0 x1 x2 = some (r, S')) (hl : lv_has ls 4 [(0, .ref (ad x0)), (1, .int x1), (2, .int x2)]) : W p l e rmX9_drift s m args below meth c H locs 0 0 (MQ below (QcM D cy ad A n0 S' (some (.int r))) args s 0 0 A) (F0 m 0 ls []) := by
  unfold bX9_drift_0 at hF
  obtain ⟨hx, hb, -, hown, -, hts, -⟩ := id C0
  refine lv_iload_n hx hb dX9_drift_0 rfl (lv_at hl 1 rfl) ?_
  refine lv_iconst (v := (4 : Int32)) hx hb dX9_drift_1 (by decide) ?_
  obtain ⟨v2, hcl, hF⟩ := ob hF
  refine go_SI (r_S (rest := []) (As := [.int x1, .int (4 : Int32)]) C0 cb_X9_79 (tX9_isBelow l D cy ad hcl) (pre_S C0) hl dX9_drift_2 rfl (Nat.le_of_ble_eq_true rfl) ⟨rfl, rfl⟩ ⟨Nat.le_of_ble_eq_true rfl, Nat.le_of_ble_eq_true rfl⟩ ⟨Nat.le_of_ble_eq_true rfl, Nat.le_of_ble_eq_true rfl⟩ rfl) ?_
  refine lv_if_ne (tgt := 10) hx hb dX9_drift_5 (by decide) (fun hc => ?_) (fun hc => ?_)
  · have hF := oi_f hc hF
    refine lv_iload_n hx hb dX9_drift_10 rfl (lv_at hl 2 rfl) ?_
    refine lv_iconst (v := (0 : Int32)) hx hb dX9_drift_11 (by decide) ?_
    refine lv_iconst (v := (4 : Int32)) hx hb dX9_drift_12 (by decide) ?_
    obtain ⟨v13, hcl, hF⟩ := ob hF
    refine go_SI (r_S (rest := []) (As := [.int x2, .int (0 : Int32), .int (4 : Int32)]) C0 cb_X9_86 (tX9_isWithin l D cy ad hcl) (pre_S C0) hl dX9_drift_13 rfl (Nat.le_of_ble_eq_true rfl) ⟨rfl, rfl⟩ ⟨Nat.le_of_ble_eq_true rfl, Nat.le_of_ble_eq_true rfl⟩ ⟨Nat.le_of_ble_eq_true rfl, Nat.le_of_ble_eq_true rfl⟩ rfl) ?_
    refine lv_if_ne (tgt := 22) hx hb dX9_drift_16 (by decide) (fun hc => ?_) (fun hc => ?_)
    · have hF := oi_f hc hF
      refine lv_aload_n hx hb dX9_drift_22 rfl (lv_at hl 0 rfl) ?_
      obtain ⟨v23, hv, hF⟩ := ob hF
      refine k_getP C0 M.1 hv fl_X9_58 dX9_drift_23 ?_
      refine lv_iload_n hx hb dX9_drift_26 rfl (lv_at hl 1 rfl) ?_
      obtain ⟨v27, hv, hF⟩ := ob hF
      refine k_ldZ C0 M.1 hv dX9_drift_27 ?_
      refine lv_if_ne (tgt := 34) hx hb dX9_drift_28 (by decide) (fun hc => ?_) (fun hc => ?_)
      · have hF := oi_f hc hF
        refine lv_aload_n hx hb dX9_drift_34 rfl (lv_at hl 0 rfl) ?_
        obtain ⟨_, hrec, hF⟩ := ob hF
        obtain ⟨v35, S35, hcl, hF⟩ := ob2 hF
        refine go_MP (r_V (rest := []) (As := []) C0 cb_X9_137 M.1 hrec (tX9_settledChart l D cy ad A hcl) (pre_R C0 M.1) hl dX9_drift_35 rfl (Nat.le_of_ble_eq_true rfl) ⟨rfl, rfl⟩ ⟨Nat.le_of_ble_eq_true rfl, Nat.le_of_ble_eq_true rfl⟩ ⟨Nat.le_of_ble_eq_true rfl, Nat.le_of_ble_eq_true rfl⟩ rfl) M (fun H locs M => ?_)
        refine lv_aload_n hx hb dX9_drift_38 rfl (lv_at hl 0 rfl) ?_
        obtain ⟨v39, hv, hF⟩ := ob hF
        refine k_getP C0 M.1 hv fl_X9_55 dX9_drift_39 ?_
        refine lv_iload_n hx hb dX9_drift_42 rfl (lv_at hl 1 rfl) ?_
        obtain ⟨v43, hv, hF⟩ := ob hF
        refine k_ldP (ty := (.array .int)) 4 C0 M.1 (by decide) rfl rfl hv dX9_drift_43 ?_
        refine lv_iload_n hx hb dX9_drift_44 rfl (lv_at hl 2 rfl) ?_
        obtain ⟨_, hrec, hF⟩ := ob hF
        obtain ⟨v45, S45, hcl, hF⟩ := ob2 hF
        refine go_MI (r_V (rest := []) (As := [.ref (ad v43), .int x2]) C0 cb_X9_319 M.1 hrec (tX0_bestDrift l D cy ad A hcl) (pre_R C0 M.1) hl dX9_drift_45 rfl (Nat.le_of_ble_eq_true rfl) ⟨rfl, rfl⟩ ⟨Nat.le_of_ble_eq_true rfl, Nat.le_of_ble_eq_true rfl⟩ ⟨Nat.le_of_ble_eq_true rfl, Nat.le_of_ble_eq_true rfl⟩ rfl) M (fun H locs M => ?_)
        refine lv_istore_n (lv' := [(3, .int v45), (0, .ref (ad x0)), (1, .int x1), (2, .int x2)]) hx hb dX9_drift_48 rfl hl (by decide) rfl (fun ls hl => ?_)
        refine lv_iload_n hx hb dX9_drift_49 rfl (lv_at hl 0 rfl) ?_
        refine lv_bipush (v := (-9 : Int32)) hx hb dX9_drift_50 (by decide) ?_
        refine lv_icmp_ne (tgt := 60) hx hb dX9_drift_52 (by decide) (fun hc => ?_) (fun hc => ?_)
        · have hF := oi_f hc hF
          refine lv_iload_n hx hb dX9_drift_60 rfl (lv_at hl 0 rfl) ?_
          exact wX9_drift_61 ad A C0 M hr hF (lv_sub hl [] rfl)
        · have hF := oi_t hc hF
          refine lv_bipush (v := (-3 : Int32)) hx hb dX9_drift_55 (by decide) ?_
          refine lv_goto (tgt := 61) hx hb dX9_drift_57 (by decide) ?_
          exact wX9_drift_61 ad A C0 M hr hF (lv_sub hl [] rfl)
      · have hF := oi_t hc hF
        refine lv_bipush (v := (-3 : Int32)) hx hb dX9_drift_31 (by decide) ?_
        obtain ⟨rfl, rfl⟩ := Prod.mk.inj (Option.some.inj hF)
        exact rt_MI C0 M hr dX9_drift_33
    · have hF := oi_t hc hF
      refine lv_bipush (v := (-2 : Int32)) hx hb dX9_drift_19 (by decide) ?_
      obtain ⟨rfl, rfl⟩ := Prod.mk.inj (Option.some.inj hF)
      exact rt_MI C0 M hr dX9_drift_21
  · have hF := oi_t hc hF
    refine lv_iconst (v := (-1 : Int32)) hx hb dX9_drift_8 (by decide) ?_
    obtain ⟨rfl, rfl⟩ := Prod.mk.inj (Option.some.inj hF)
    exact rt_MI C0 M hr dX9_drift_9
set_option maxHeartbeats 4000000 in
set_option maxRecDepth 100000 in
theorem tX9_drift (l : Launch) (D : va_G) (cy : Nat → ClassId) (ad : Nat → Nat) (A : Nat → Prop) {S S' : MS} {a0 : Nat} {a1 : Int32} {a2 : Int32} {r : Int32} (h : fX9_drift S a0 a1 a2 = some (r, S')) : Met l yX9_drift [Cond.code yX9_drift cX9_drift 4 (some .int)] rmX9_drift (PcR D cy ad A S [.ref (ad a0), .int a1, .int a2]) (QcM D cy ad A (m_n S) S' (some (.int r))) 0 0 A := by
  refine met_M (by decide +kernel) cw_X9_drift (Nat.le_of_ble_eq_true rfl) ?_
  intro p e s m args below meth c ls C0 M hr hin hl
  have hl : lv_has ls 4 [(0, .ref (ad a0)), (1, .int a1), (2, .int a2)] := hl
  exact wX9_drift_0 ad A C0 M hr h hl
set_option maxHeartbeats 4000000 in
set_option maxRecDepth 100000 in
theorem wX9_fault_0 {p : Program} {l : Launch} {e : Env} {s : State} {m : MethodId} {args : Array Value} {below : List Frame} {meth : Method} {c : Code} {D : va_G} {cy : Nat → ClassId} (ad : Nat → Nat) (A : Nat → Prop) {S : MS} {r : Int32} {ls : Array Slot} {x0 : Nat} (C0 : CX p s m args meth c RX9 cX9_fault 1 D cy) (M : MW D cy ad A S s.heap) (hr : meth.sig.returnType = some .int) (hF : bX9_fault_0 S x0 = some r) (hl : lv_has ls 1 [(0, .ref (ad x0))]) : W p l e rmX9_fault s m args below meth c s.heap [] 0 0 (MQ below (QcS (some (.int r))) args s 0 0 (fun _ => False)) (F0 m 0 ls []) := by
  unfold bX9_fault_0 at hF
  obtain ⟨hx, hb, -, hown, -, hts, -⟩ := id C0
  refine lv_aload_n hx hb dX9_fault_0 rfl (lv_at hl 0 rfl) ?_
  obtain ⟨v1, hv, hF⟩ := ob hF
  refine k_getI C0 M hv fl_X9_76 dX9_fault_1 ?_
  obtain rfl := (Option.some.inj hF)
  exact rt_SI C0 hr dX9_fault_4
set_option maxHeartbeats 4000000 in
set_option maxRecDepth 100000 in
theorem tX9_fault (l : Launch) (D : va_G) (cy : Nat → ClassId) (ad : Nat → Nat) (A : Nat → Prop) {S : MS} {a0 : Nat} {r : Int32} (h : fX9_fault S a0 = some r) : Met l yX9_fault [Cond.code yX9_fault cX9_fault 1 (some .int)] rmX9_fault (PcR D cy ad A S [.ref (ad a0)]) (QcS (some (.int r))) 0 0 (fun _ => False) := by
  refine met_R (by decide +kernel) cw_X9_fault (Nat.le_of_ble_eq_true rfl) ?_
  intro p e s m args below meth c ls C0 M hr hl
  have hl : lv_has ls 1 [(0, .ref (ad a0))] := hl
  exact wX9_fault_0 ad A C0 M hr h hl
set_option maxHeartbeats 4000000 in
set_option maxRecDepth 100000 in
theorem wX2_init_0 {p : Program} {l : Launch} {e : Env} {s : State} {m : MethodId} {args : Array Value} {below : List Frame} {meth : Method} {c : Code} {D : va_G} {cy : Nat → ClassId} (ad : Nat → Nat) (A : Nat → Prop) {S : MS} {S' : MS} {H : Heap} {locs : List Loc} {K0 : Nat} {ls : Array Slot} {x0 : Nat} (C0 : CX p s m args meth c RX2 cX2_init 1 D cy) (hA : ∀ k, 0 < k → A (ad k)) (hs : ∀ k, K0 ≤ k → ad (k + 1) + 1 = ad (k + 2)) (hE : EX ad A s) (M : ST D cy ad A s.heap (ZA ad K0) S H locs) (hr : meth.sig.returnType = none) (hin : meth.name = "<init>") (hF : bX2_init_0 S x0 = some S') (hl : lv_has ls 1 [(0, .ref (ad x0))]) : W p l e rmX2_init s m args below meth c H locs 0 0 (MQ below (QcA D cy ad A K0 S' (none)) args s 3 15 A) (F0 m 0 ls []) := by
  unfold bX2_init_0 at hF
  obtain ⟨hx, hb, -, hown, -, hts, -⟩ := id C0
  refine lv_aload_n hx hb dX2_init_0 rfl (lv_at hl 0 rfl) ?_
  refine W.objInit hx hb hown (hts _ (uw_of 925 (by decide +kernel) rfl)) (hts _ (uw_of 111 (by decide +kernel) rfl)) (hts _ (uw_of 112 (by decide +kernel) rfl)) rfl (by rw [C0.2.2.1]; exact hl.1) rfl dX2_init_1 (Nat.le_of_ble_eq_true rfl) (Nat.le_of_ble_eq_true rfl) ?_
  refine W.eq (g2 := F0 m 4 ls []) rfl ?_
  refine lv_aload_n hx hb dX2_init_4 rfl (lv_at hl 0 rfl) ?_
  refine lv_iconst (v := (0 : Int32)) hx hb dX2_init_5 (by decide) ?_
  obtain ⟨S6, hv, hF⟩ := ob hF
  refine k_sI C0 M hv fl_X2_9 dX2_init_6 (fun H locs M => ?_)
  refine lv_aload_n hx hb dX2_init_9 rfl (lv_at hl 0 rfl) ?_
  refine lv_iconst (v := (5 : Int32)) hx hb dX2_init_10 (by decide) ?_
  obtain ⟨n11, hn, hF⟩ := ob hF
  obtain ⟨o11, ho, hF⟩ := ob hF
  obtain ⟨S11, hv, hF⟩ := ob hF
  have ho := vtI ho
  have hv := vtI hv
  refine k_newI (atype := .int) (ty := .int) (kd := 12) 0 C0 M hA hs rfl (uw_of 185 (by decide +kernel) rfl) rfl (by decide) rfl rfl hn (Nat.le_of_ble_eq_true rfl) (Nat.le_of_ble_eq_true rfl) (Nat.le_of_ble_eq_true rfl) dX2_init_11 (fun H M => ?_)
  rw [hv] at M
  rw [ho]
  refine W.widen (k := 1) (n := 5) (Nat.le_of_ble_eq_true rfl) (Nat.le_of_ble_eq_true rfl) ?_
  obtain ⟨S13, hv, hF⟩ := ob hF
  refine k_sPF C0 M hin rfl hv fl_X2_15 dX2_init_13 (fun H locs M => ?_)
  refine lv_aload_n hx hb dX2_init_16 rfl (lv_at hl 0 rfl) ?_
  refine lv_iconst (v := (5 : Int32)) hx hb dX2_init_17 (by decide) ?_
  obtain ⟨n18, hn, hF⟩ := ob hF
  obtain ⟨o18, ho, hF⟩ := ob hF
  obtain ⟨S18, hv, hF⟩ := ob hF
  have ho := vtI ho
  have hv := vtI hv
  refine k_newI (atype := .int) (ty := .int) (kd := 12) 0 C0 M hA hs rfl (uw_of 185 (by decide +kernel) rfl) rfl (by decide) rfl rfl hn (Nat.le_of_ble_eq_true rfl) (Nat.le_of_ble_eq_true rfl) (Nat.le_of_ble_eq_true rfl) dX2_init_18 (fun H M => ?_)
  rw [hv] at M
  rw [ho]
  refine W.widen (k := 2) (n := 10) (Nat.le_of_ble_eq_true rfl) (Nat.le_of_ble_eq_true rfl) ?_
  obtain ⟨S20, hv, hF⟩ := ob hF
  refine k_sPF C0 M hin rfl hv fl_X2_19 dX2_init_20 (fun H locs M => ?_)
  refine lv_aload_n hx hb dX2_init_23 rfl (lv_at hl 0 rfl) ?_
  refine lv_iconst (v := (5 : Int32)) hx hb dX2_init_24 (by decide) ?_
  obtain ⟨n25, hn, hF⟩ := ob hF
  obtain ⟨o25, ho, hF⟩ := ob hF
  obtain ⟨S25, hv, hF⟩ := ob hF
  have ho := vtI ho
  have hv := vtI hv
  refine k_newI (atype := .int) (ty := .int) (kd := 12) 0 C0 M hA hs rfl (uw_of 185 (by decide +kernel) rfl) rfl (by decide) rfl rfl hn (Nat.le_of_ble_eq_true rfl) (Nat.le_of_ble_eq_true rfl) (Nat.le_of_ble_eq_true rfl) dX2_init_25 (fun H M => ?_)
  rw [hv] at M
  rw [ho]
  refine W.widen (k := 3) (n := 15) (Nat.le_of_ble_eq_true rfl) (Nat.le_of_ble_eq_true rfl) ?_
  obtain ⟨S27, hv, hF⟩ := ob hF
  refine k_sPF C0 M hin rfl hv fl_X2_22 dX2_init_27 (fun H locs M => ?_)
  refine lv_aload_n hx hb dX2_init_30 rfl (lv_at hl 0 rfl) ?_
  refine lv_iconst (v := (0 : Int32)) hx hb dX2_init_31 (by decide) ?_
  obtain ⟨S32, hv, hF⟩ := ob hF
  refine k_sI C0 M hv fl_X2_25 dX2_init_32 (fun H locs M => ?_)
  refine lv_aload_n hx hb dX2_init_35 rfl (lv_at hl 0 rfl) ?_
  refine lv_iconst (v := (0 : Int32)) hx hb dX2_init_36 (by decide) ?_
  obtain ⟨S37, hv, hF⟩ := ob hF
  refine k_sI C0 M hv fl_X2_28 dX2_init_37 (fun H locs M => ?_)
  obtain rfl := (Option.some.inj hF)
  exact rt_AV C0 M hr dX2_init_40
set_option maxHeartbeats 4000000 in
set_option maxRecDepth 100000 in
theorem tX2_init (l : Launch) (D : va_G) (cy : Nat → ClassId) (ad : Nat → Nat) (A : Nat → Prop) (K0 : Nat) (hA : ∀ k, 0 < k → A (ad k)) (hs : ∀ k, K0 ≤ k → ad (k + 1) + 1 = ad (k + 2)) {S S' : MS} {a0 : Nat} (h : fX2_init S a0 = some S') : Met l yX2_init [Cond.code yX2_init cX2_init 1 (none)] rmX2_init (PcA D cy ad A K0 S [.ref (ad a0)]) (QcA D cy ad A K0 S' (none)) 3 15 A := by
  refine met_A (by decide +kernel) cw_X2_init (Nat.le_of_ble_eq_true rfl) ?_
  intro p e s m args below meth c ls C0 hE M hr hin hl
  have hl : lv_has ls 1 [(0, .ref (ad a0))] := hl
  exact wX2_init_0 ad A C0 hA hs hE M hr hin h hl
set_option maxHeartbeats 4000000 in
set_option maxRecDepth 100000 in
theorem wX2_takesComma_16 {p : Program} {l : Launch} {e : Env} {s : State} {m : MethodId} {args : Array Value} {below : List Frame} {meth : Method} {c : Code} {D : va_G} {cy : Nat → ClassId} (ad : Nat → Nat) (A : Nat → Prop) {S : MS} {S' : MS} {H : Heap} {locs : List Loc} {n0 : Nat} {r : Int32} {ls : Array Slot} (C0 : CX p s m args meth c RX2 cX2_takesComma 1 D cy) (M : ST D cy ad A s.heap (ZN n0 s.heap.size) S H locs) (hr : meth.sig.returnType = some .boolean) (hF : bX2_takesComma_16 S = some (r, S')) (hl : lv_has ls 1 []) : W p l e rmX2_takesComma s m args below meth c H locs 0 0 (MQ below (QcM D cy ad A n0 S' (some (.int r))) args s 0 0 A) (F0 m 16 ls []) := by
  unfold bX2_takesComma_16 at hF
  obtain ⟨hx, hb, -, hown, -, hts, -⟩ := id C0
  refine lv_iconst (v := (0 : Int32)) hx hb dX2_takesComma_16 (by decide) ?_
  have hz : o_zb (0 : Int32) = some (0 : Int32) := rfl
  obtain ⟨rfl, rfl⟩ := Prod.mk.inj (Option.some.inj hF)
  exact rt_MZ C0 M hr hz dX2_takesComma_17
set_option maxHeartbeats 4000000 in
set_option maxRecDepth 100000 in
theorem wX2_takesComma_0 {p : Program} {l : Launch} {e : Env} {s : State} {m : MethodId} {args : Array Value} {below : List Frame} {meth : Method} {c : Code} {D : va_G} {cy : Nat → ClassId} (ad : Nat → Nat) (A : Nat → Prop) {S : MS} {S' : MS} {H : Heap} {locs : List Loc} {n0 : Nat} {r : Int32} {ls : Array Slot} {x0 : Nat} (C0 : CX p s m args meth c RX2 cX2_takesComma 1 D cy) (M : ST D cy ad A s.heap (ZN n0 s.heap.size) S H locs) (hr : meth.sig.returnType = some .boolean) (hF : bX2_takesComma_0 S x0 = some (r, S')) (hl : lv_has ls 1 [(0, .ref (ad x0))]) : W p l e rmX2_takesComma s m args below meth c H locs 0 0 (MQ below (QcM D cy ad A n0 S' (some (.int r))) args s 0 0 A) (F0 m 0 ls []) := by
  unfold bX2_takesComma_0 at hF
  obtain ⟨hx, hb, -, hown, -, hts, -⟩ := id C0
  refine lv_aload_n hx hb dX2_takesComma_0 rfl (lv_at hl 0 rfl) ?_
  obtain ⟨v1, hv, hF⟩ := ob hF
  refine k_getI C0 M.1 hv fl_X2_25 dX2_takesComma_1 ?_
  refine lv_iconst (v := (3 : Int32)) hx hb dX2_takesComma_4 (by decide) ?_
  refine lv_icmp_ne (tgt := 16) hx hb dX2_takesComma_5 (by decide) (fun hc => ?_) (fun hc => ?_)
  · have hF := oi_f hc hF
    exact wX2_takesComma_16 ad A C0 M hr hF (lv_sub hl [] rfl)
  · have hF := oi_t hc hF
    refine lv_aload_n hx hb dX2_takesComma_8 rfl (lv_at hl 0 rfl) ?_
    obtain ⟨v9, hv, hF⟩ := ob hF
    refine k_getI C0 M.1 hv fl_X2_9 dX2_takesComma_9 ?_
    refine lv_iconst (v := (5 : Int32)) hx hb dX2_takesComma_12 (by decide) ?_
    refine lv_icmp_lt (tgt := 18) hx hb dX2_takesComma_13 (by decide) (fun hc => ?_) (fun hc => ?_)
    · have hF := oi_t hc hF
      refine lv_aload_n hx hb dX2_takesComma_18 rfl (lv_at hl 0 rfl) ?_
      refine lv_iconst (v := (0 : Int32)) hx hb dX2_takesComma_19 (by decide) ?_
      obtain ⟨S20, hv, hF⟩ := ob hF
      refine k_sI C0 M hv fl_X2_25 dX2_takesComma_20 (fun H locs M => ?_)
      refine lv_iconst (v := (1 : Int32)) hx hb dX2_takesComma_23 (by decide) ?_
      have hz : o_zb (1 : Int32) = some (1 : Int32) := rfl
      obtain ⟨rfl, rfl⟩ := Prod.mk.inj (Option.some.inj hF)
      exact rt_MZ C0 M hr hz dX2_takesComma_24
    · have hF := oi_f hc hF
      exact wX2_takesComma_16 ad A C0 M hr hF (lv_sub hl [] rfl)
set_option maxHeartbeats 4000000 in
set_option maxRecDepth 100000 in
theorem tX2_takesComma (l : Launch) (D : va_G) (cy : Nat → ClassId) (ad : Nat → Nat) (A : Nat → Prop) {S S' : MS} {a0 : Nat} {r : Int32} (h : fX2_takesComma S a0 = some (r, S')) : Met l yX2_takesComma [Cond.code yX2_takesComma cX2_takesComma 1 (some .boolean)] rmX2_takesComma (PcR D cy ad A S [.ref (ad a0)]) (QcM D cy ad A (m_n S) S' (some (.int r))) 0 0 A := by
  refine met_M (by decide +kernel) cw_X2_takesComma (Nat.le_of_ble_eq_true rfl) ?_
  intro p e s m args below meth c ls C0 M hr hin hl
  have hl : lv_has ls 1 [(0, .ref (ad a0))] := hl
  exact wX2_takesComma_0 ad A C0 M hr h hl
set_option maxHeartbeats 4000000 in
set_option maxRecDepth 100000 in
theorem wX2_takesDigit_19 {p : Program} {l : Launch} {e : Env} {s : State} {m : MethodId} {args : Array Value} {below : List Frame} {meth : Method} {c : Code} {D : va_G} {cy : Nat → ClassId} (ad : Nat → Nat) (A : Nat → Prop) {S : MS} {S' : MS} {H : Heap} {locs : List Loc} {n0 : Nat} {r : Int32} {ls : Array Slot} (C0 : CX p s m args meth c RX2 cX2_takesDigit 2 D cy) (M : ST D cy ad A s.heap (ZN n0 s.heap.size) S H locs) (hr : meth.sig.returnType = some .boolean) (hF : bX2_takesDigit_19 S = some (r, S')) (hl : lv_has ls 2 []) : W p l e rmX2_takesDigit s m args below meth c H locs 0 0 (MQ below (QcM D cy ad A n0 S' (some (.int r))) args s 0 0 A) (F0 m 19 ls []) := by
  unfold bX2_takesDigit_19 at hF
  obtain ⟨hx, hb, -, hown, -, hts, -⟩ := id C0
  refine lv_iconst (v := (0 : Int32)) hx hb dX2_takesDigit_19 (by decide) ?_
  have hz : o_zb (0 : Int32) = some (0 : Int32) := rfl
  obtain ⟨rfl, rfl⟩ := Prod.mk.inj (Option.some.inj hF)
  exact rt_MZ C0 M hr hz dX2_takesDigit_20
set_option maxHeartbeats 4000000 in
set_option maxRecDepth 100000 in
theorem wX2_takesDigit_39 {p : Program} {l : Launch} {e : Env} {s : State} {m : MethodId} {args : Array Value} {below : List Frame} {meth : Method} {c : Code} {D : va_G} {cy : Nat → ClassId} (ad : Nat → Nat) (A : Nat → Prop) {S : MS} {S' : MS} {H : Heap} {locs : List Loc} {n0 : Nat} {r : Int32} {ls : Array Slot} {x0 : Nat} {x1 : Int32} (C0 : CX p s m args meth c RX2 cX2_takesDigit 2 D cy) (M : ST D cy ad A s.heap (ZN n0 s.heap.size) S H locs) (hr : meth.sig.returnType = some .boolean) (hF : bX2_takesDigit_39 S x0 x1 = some (r, S')) (hl : lv_has ls 2 [(0, .ref (ad x0)), (1, .int x1)]) : W p l e rmX2_takesDigit s m args below meth c H locs 0 0 (MQ below (QcM D cy ad A n0 S' (some (.int r))) args s 0 0 A) (F0 m 39 ls []) := by
  unfold bX2_takesDigit_39 at hF
  obtain ⟨hx, hb, -, hown, -, hts, -⟩ := id C0
  refine lv_aload_n hx hb dX2_takesDigit_39 rfl (lv_at hl 0 rfl) ?_
  obtain ⟨v40, hv, hF⟩ := ob hF
  refine k_getP C0 M.1 hv fl_X2_22 dX2_takesDigit_40 ?_
  refine lv_aload_n hx hb dX2_takesDigit_43 rfl (lv_at hl 0 rfl) ?_
  obtain ⟨v44, hv, hF⟩ := ob hF
  refine k_getI C0 M.1 hv fl_X2_9 dX2_takesDigit_44 ?_
  refine lv_iconst (v := (1 : Int32)) hx hb dX2_takesDigit_47 (by decide) ?_
  refine lv_isub hx hb dX2_takesDigit_48 ?_
  refine lv_bipush (v := (10 : Int32)) hx hb dX2_takesDigit_49 (by decide) ?_
  refine lv_aload_n hx hb dX2_takesDigit_51 rfl (lv_at hl 0 rfl) ?_
  obtain ⟨v52, hv, hF⟩ := ob hF
  refine k_getP C0 M.1 hv fl_X2_22 dX2_takesDigit_52 ?_
  refine lv_aload_n hx hb dX2_takesDigit_55 rfl (lv_at hl 0 rfl) ?_
  obtain ⟨v56, hv, hF⟩ := ob hF
  refine k_getI C0 M.1 hv fl_X2_9 dX2_takesDigit_56 ?_
  refine lv_iconst (v := (1 : Int32)) hx hb dX2_takesDigit_59 (by decide) ?_
  refine lv_isub hx hb dX2_takesDigit_60 ?_
  obtain ⟨v61, hv, hF⟩ := ob hF
  refine k_ld C0 M.1 hv dX2_takesDigit_61 ?_
  refine lv_imul hx hb dX2_takesDigit_62 ?_
  refine lv_iload_n hx hb dX2_takesDigit_63 rfl (lv_at hl 1 rfl) ?_
  refine lv_iadd hx hb dX2_takesDigit_64 ?_
  refine lv_bipush (v := (48 : Int32)) hx hb dX2_takesDigit_65 (by decide) ?_
  refine lv_isub hx hb dX2_takesDigit_67 ?_
  obtain ⟨S68, hv, hF⟩ := ob hF
  refine k_st C0 M hv dX2_takesDigit_68 (fun H locs M => ?_)
  refine lv_aload_n hx hb dX2_takesDigit_69 rfl (lv_at hl 0 rfl) ?_
  refine lv_dup hx hb dX2_takesDigit_70 rfl ?_
  obtain ⟨v71, hv, hF⟩ := ob hF
  refine k_getI C0 M.1 hv fl_X2_28 dX2_takesDigit_71 ?_
  refine lv_iconst (v := (1 : Int32)) hx hb dX2_takesDigit_74 (by decide) ?_
  refine lv_iadd hx hb dX2_takesDigit_75 ?_
  obtain ⟨S76, hv, hF⟩ := ob hF
  refine k_sI C0 M hv fl_X2_28 dX2_takesDigit_76 (fun H locs M => ?_)
  refine lv_aload_n hx hb dX2_takesDigit_79 rfl (lv_at hl 0 rfl) ?_
  refine lv_iconst (v := (3 : Int32)) hx hb dX2_takesDigit_80 (by decide) ?_
  obtain ⟨S81, hv, hF⟩ := ob hF
  refine k_sI C0 M hv fl_X2_25 dX2_takesDigit_81 (fun H locs M => ?_)
  refine lv_iconst (v := (1 : Int32)) hx hb dX2_takesDigit_84 (by decide) ?_
  have hz : o_zb (1 : Int32) = some (1 : Int32) := rfl
  obtain ⟨rfl, rfl⟩ := Prod.mk.inj (Option.some.inj hF)
  exact rt_MZ C0 M hr hz dX2_takesDigit_85
set_option maxHeartbeats 4000000 in
set_option maxRecDepth 100000 in
theorem wX2_takesDigit_0 {p : Program} {l : Launch} {e : Env} {s : State} {m : MethodId} {args : Array Value} {below : List Frame} {meth : Method} {c : Code} {D : va_G} {cy : Nat → ClassId} (ad : Nat → Nat) (A : Nat → Prop) {S : MS} {S' : MS} {H : Heap} {locs : List Loc} {n0 : Nat} {r : Int32} {ls : Array Slot} {x0 : Nat} {x1 : Int32} (C0 : CX p s m args meth c RX2 cX2_takesDigit 2 D cy) (M : ST D cy ad A s.heap (ZN n0 s.heap.size) S H locs) (hr : meth.sig.returnType = some .boolean) (hF : bX2_takesDigit_0 S x0 x1 = some (r, S')) (hl : lv_has ls 2 [(0, .ref (ad x0)), (1, .int x1)]) : W p l e rmX2_takesDigit s m args below meth c H locs 0 0 (MQ below (QcM D cy ad A n0 S' (some (.int r))) args s 0 0 A) (F0 m 0 ls []) := by
  unfold bX2_takesDigit_0 at hF
  obtain ⟨hx, hb, -, hown, -, hts, -⟩ := id C0
  refine lv_iload_n hx hb dX2_takesDigit_0 rfl (lv_at hl 1 rfl) ?_
  refine lv_bipush (v := (48 : Int32)) hx hb dX2_takesDigit_1 (by decide) ?_
  refine lv_bipush (v := (57 : Int32)) hx hb dX2_takesDigit_3 (by decide) ?_
  obtain ⟨v5, hcl, hF⟩ := ob hF
  refine go_SI (r_SN (rest := []) (As := [.int x1, .int (48 : Int32), .int (57 : Int32)]) C0 cb_X2_48 (tX9_isWithin l D cy ad hcl) (pre_S C0) hl dX2_takesDigit_5 rfl (Nat.le_of_ble_eq_true rfl) ⟨rfl, rfl⟩ ⟨Nat.le_of_ble_eq_true rfl, Nat.le_of_ble_eq_true rfl⟩ ⟨Nat.le_of_ble_eq_true rfl, Nat.le_of_ble_eq_true rfl⟩ rfl) ?_
  refine lv_if_eq (tgt := 19) hx hb dX2_takesDigit_8 (by decide) (fun hc => ?_) (fun hc => ?_)
  · have hF := oi_t hc hF
    exact wX2_takesDigit_19 ad A C0 M hr hF (lv_sub hl [] rfl)
  · have hF := oi_f hc hF
    refine lv_aload_n hx hb dX2_takesDigit_11 rfl (lv_at hl 0 rfl) ?_
    obtain ⟨v12, hv, hF⟩ := ob hF
    refine k_getI C0 M.1 hv fl_X2_28 dX2_takesDigit_12 ?_
    refine lv_iconst (v := (5 : Int32)) hx hb dX2_takesDigit_15 (by decide) ?_
    refine lv_icmp_lt (tgt := 21) hx hb dX2_takesDigit_16 (by decide) (fun hc => ?_) (fun hc => ?_)
    · have hF := oi_t hc hF
      refine lv_aload_n hx hb dX2_takesDigit_21 rfl (lv_at hl 0 rfl) ?_
      obtain ⟨v22, hv, hF⟩ := ob hF
      refine k_getI C0 M.1 hv fl_X2_25 dX2_takesDigit_22 ?_
      refine lv_iconst (v := (2 : Int32)) hx hb dX2_takesDigit_25 (by decide) ?_
      refine lv_icmp_ne (tgt := 39) hx hb dX2_takesDigit_26 (by decide) (fun hc => ?_) (fun hc => ?_)
      · have hF := oi_f hc hF
        exact wX2_takesDigit_39 ad A C0 M hr hF (lv_sub hl [0, 1] rfl)
      · have hF := oi_t hc hF
        refine lv_aload_n hx hb dX2_takesDigit_29 rfl (lv_at hl 0 rfl) ?_
        refine lv_dup hx hb dX2_takesDigit_30 rfl ?_
        obtain ⟨v31, hv, hF⟩ := ob hF
        refine k_getI C0 M.1 hv fl_X2_9 dX2_takesDigit_31 ?_
        refine lv_iconst (v := (1 : Int32)) hx hb dX2_takesDigit_34 (by decide) ?_
        refine lv_iadd hx hb dX2_takesDigit_35 ?_
        obtain ⟨S36, hv, hF⟩ := ob hF
        refine k_sI C0 M hv fl_X2_9 dX2_takesDigit_36 (fun H locs M => ?_)
        exact wX2_takesDigit_39 ad A C0 M hr hF (lv_sub hl [0, 1] rfl)
    · have hF := oi_f hc hF
      exact wX2_takesDigit_19 ad A C0 M hr hF (lv_sub hl [] rfl)
set_option maxHeartbeats 4000000 in
set_option maxRecDepth 100000 in
theorem tX2_takesDigit (l : Launch) (D : va_G) (cy : Nat → ClassId) (ad : Nat → Nat) (A : Nat → Prop) {S S' : MS} {a0 : Nat} {a1 : Int32} {r : Int32} (h : fX2_takesDigit S a0 a1 = some (r, S')) : Met l yX2_takesDigit [Cond.code yX2_takesDigit cX2_takesDigit 2 (some .boolean)] rmX2_takesDigit (PcR D cy ad A S [.ref (ad a0), .int a1]) (QcM D cy ad A (m_n S) S' (some (.int r))) 0 0 A := by
  refine met_M (by decide +kernel) cw_X2_takesDigit (Nat.le_of_ble_eq_true rfl) ?_
  intro p e s m args below meth c ls C0 M hr hin hl
  have hl : lv_has ls 2 [(0, .ref (ad a0)), (1, .int a1)] := hl
  exact wX2_takesDigit_0 ad A C0 M hr h hl
set_option maxHeartbeats 4000000 in
set_option maxRecDepth 100000 in
theorem wX2_takesRegion_48 {p : Program} {l : Launch} {e : Env} {s : State} {m : MethodId} {args : Array Value} {below : List Frame} {meth : Method} {c : Code} {D : va_G} {cy : Nat → ClassId} (ad : Nat → Nat) (A : Nat → Prop) {S : MS} {S' : MS} {H : Heap} {locs : List Loc} {n0 : Nat} {r : Int32} {ls : Array Slot} (C0 : CX p s m args meth c RX2 cX2_takesRegion 3 D cy) (M : ST D cy ad A s.heap (ZN n0 s.heap.size) S H locs) (hr : meth.sig.returnType = some .boolean) (hF : bX2_takesRegion_48 S = some (r, S')) (hl : lv_has ls 3 []) : W p l e rmX2_takesRegion s m args below meth c H locs 0 0 (MQ below (QcM D cy ad A n0 S' (some (.int r))) args s 0 0 A) (F0 m 48 ls []) := by
  unfold bX2_takesRegion_48 at hF
  obtain ⟨hx, hb, -, hown, -, hts, -⟩ := id C0
  refine lv_iconst (v := (0 : Int32)) hx hb dX2_takesRegion_48 (by decide) ?_
  have hz : o_zb (0 : Int32) = some (0 : Int32) := rfl
  obtain ⟨rfl, rfl⟩ := Prod.mk.inj (Option.some.inj hF)
  exact rt_MZ C0 M hr hz dX2_takesRegion_49
set_option maxHeartbeats 4000000 in
set_option maxRecDepth 100000 in
theorem wX2_takesRegion_35 {p : Program} {l : Launch} {e : Env} {s : State} {m : MethodId} {args : Array Value} {below : List Frame} {meth : Method} {c : Code} {D : va_G} {cy : Nat → ClassId} (ad : Nat → Nat) (A : Nat → Prop) {S : MS} {S' : MS} {H : Heap} {locs : List Loc} {n0 : Nat} {r : Int32} {ls : Array Slot} {x0 : Nat} {x1 : Int32} {z0 : Int32} (C0 : CX p s m args meth c RX2 cX2_takesRegion 3 D cy) (M : ST D cy ad A s.heap (ZN n0 s.heap.size) S H locs) (hr : meth.sig.returnType = some .boolean) (hF : bX2_takesRegion_35 S x0 x1 z0 = some (r, S')) (hl : lv_has ls 3 [(0, .ref (ad x0)), (1, .int x1)]) : W p l e rmX2_takesRegion s m args below meth c H locs 0 0 (MQ below (QcM D cy ad A n0 S' (some (.int r))) args s 0 0 A) (F0 m 35 ls [.int z0]) := by
  unfold bX2_takesRegion_35 at hF
  obtain ⟨hx, hb, -, hown, -, hts, -⟩ := id C0
  refine lv_istore_n (lv' := [(2, .int z0), (0, .ref (ad x0)), (1, .int x1)]) hx hb dX2_takesRegion_35 rfl hl (by decide) rfl (fun ls hl => ?_)
  refine lv_iload_n hx hb dX2_takesRegion_36 rfl (lv_at hl 0 rfl) ?_
  refine lv_if_eq (tgt := 48) hx hb dX2_takesRegion_37 (by decide) (fun hc => ?_) (fun hc => ?_)
  · have hF := oi_t hc hF
    exact wX2_takesRegion_48 ad A C0 M hr hF (lv_sub hl [] rfl)
  · have hF := oi_f hc hF
    refine lv_aload_n hx hb dX2_takesRegion_40 rfl (lv_at hl 1 rfl) ?_
    obtain ⟨v41, hv, hF⟩ := ob hF
    refine k_getI C0 M.1 hv fl_X2_9 dX2_takesRegion_41 ?_
    refine lv_iconst (v := (5 : Int32)) hx hb dX2_takesRegion_44 (by decide) ?_
    refine lv_icmp_lt (tgt := 50) hx hb dX2_takesRegion_45 (by decide) (fun hc => ?_) (fun hc => ?_)
    · have hF := oi_t hc hF
      refine lv_aload_n hx hb dX2_takesRegion_50 rfl (lv_at hl 1 rfl) ?_
      obtain ⟨v51, hv, hF⟩ := ob hF
      refine k_getP C0 M.1 hv fl_X2_15 dX2_takesRegion_51 ?_
      refine lv_aload_n hx hb dX2_takesRegion_54 rfl (lv_at hl 1 rfl) ?_
      obtain ⟨v55, hv, hF⟩ := ob hF
      refine k_getI C0 M.1 hv fl_X2_9 dX2_takesRegion_55 ?_
      refine lv_iload_n hx hb dX2_takesRegion_58 rfl (lv_at hl 2 rfl) ?_
      obtain ⟨S59, hv, hF⟩ := ob hF
      refine k_st C0 M hv dX2_takesRegion_59 (fun H locs M => ?_)
      refine lv_aload_n hx hb dX2_takesRegion_60 rfl (lv_at hl 1 rfl) ?_
      refine lv_iconst (v := (0 : Int32)) hx hb dX2_takesRegion_61 (by decide) ?_
      obtain ⟨S62, hv, hF⟩ := ob hF
      refine k_sI C0 M hv fl_X2_28 dX2_takesRegion_62 (fun H locs M => ?_)
      refine lv_aload_n hx hb dX2_takesRegion_65 rfl (lv_at hl 1 rfl) ?_
      refine lv_iconst (v := (1 : Int32)) hx hb dX2_takesRegion_66 (by decide) ?_
      obtain ⟨S67, hv, hF⟩ := ob hF
      refine k_sI C0 M hv fl_X2_25 dX2_takesRegion_67 (fun H locs M => ?_)
      refine lv_iconst (v := (1 : Int32)) hx hb dX2_takesRegion_70 (by decide) ?_
      have hz : o_zb (1 : Int32) = some (1 : Int32) := rfl
      obtain ⟨rfl, rfl⟩ := Prod.mk.inj (Option.some.inj hF)
      exact rt_MZ C0 M hr hz dX2_takesRegion_71
    · have hF := oi_f hc hF
      exact wX2_takesRegion_48 ad A C0 M hr hF (lv_sub hl [] rfl)
set_option maxHeartbeats 4000000 in
set_option maxRecDepth 100000 in
theorem wX2_takesRegion_30 {p : Program} {l : Launch} {e : Env} {s : State} {m : MethodId} {args : Array Value} {below : List Frame} {meth : Method} {c : Code} {D : va_G} {cy : Nat → ClassId} (ad : Nat → Nat) (A : Nat → Prop) {S : MS} {S' : MS} {H : Heap} {locs : List Loc} {n0 : Nat} {r : Int32} {ls : Array Slot} {x0 : Nat} {x1 : Int32} (C0 : CX p s m args meth c RX2 cX2_takesRegion 3 D cy) (M : ST D cy ad A s.heap (ZN n0 s.heap.size) S H locs) (hr : meth.sig.returnType = some .boolean) (hF : bX2_takesRegion_30 S x0 x1 = some (r, S')) (hl : lv_has ls 3 [(0, .ref (ad x0)), (1, .int x1)]) : W p l e rmX2_takesRegion s m args below meth c H locs 0 0 (MQ below (QcM D cy ad A n0 S' (some (.int r))) args s 0 0 A) (F0 m 30 ls []) := by
  unfold bX2_takesRegion_30 at hF
  obtain ⟨hx, hb, -, hown, -, hts, -⟩ := id C0
  refine lv_iconst (v := (1 : Int32)) hx hb dX2_takesRegion_30 (by decide) ?_
  refine lv_goto (tgt := 35) hx hb dX2_takesRegion_31 (by decide) ?_
  exact wX2_takesRegion_35 ad A C0 M hr hF (lv_sub hl [0, 1] rfl)
set_option maxHeartbeats 4000000 in
set_option maxRecDepth 100000 in
theorem wX2_takesRegion_0 {p : Program} {l : Launch} {e : Env} {s : State} {m : MethodId} {args : Array Value} {below : List Frame} {meth : Method} {c : Code} {D : va_G} {cy : Nat → ClassId} (ad : Nat → Nat) (A : Nat → Prop) {S : MS} {S' : MS} {H : Heap} {locs : List Loc} {n0 : Nat} {r : Int32} {ls : Array Slot} {x0 : Nat} {x1 : Int32} (C0 : CX p s m args meth c RX2 cX2_takesRegion 3 D cy) (M : ST D cy ad A s.heap (ZN n0 s.heap.size) S H locs) (hr : meth.sig.returnType = some .boolean) (hF : bX2_takesRegion_0 S x0 x1 = some (r, S')) (hl : lv_has ls 3 [(0, .ref (ad x0)), (1, .int x1)]) : W p l e rmX2_takesRegion s m args below meth c H locs 0 0 (MQ below (QcM D cy ad A n0 S' (some (.int r))) args s 0 0 A) (F0 m 0 ls []) := by
  unfold bX2_takesRegion_0 at hF
  obtain ⟨hx, hb, -, hown, -, hts, -⟩ := id C0
  refine lv_iload_n hx hb dX2_takesRegion_0 rfl (lv_at hl 1 rfl) ?_
  refine lv_bipush (v := (110 : Int32)) hx hb dX2_takesRegion_1 (by decide) ?_
  refine lv_icmp_eq (tgt := 30) hx hb dX2_takesRegion_3 (by decide) (fun hc => ?_) (fun hc => ?_)
  · have hF := oi_t hc hF
    exact wX2_takesRegion_30 ad A C0 M hr hF (lv_sub hl [0, 1] rfl)
  · have hF := oi_f hc hF
    refine lv_iload_n hx hb dX2_takesRegion_6 rfl (lv_at hl 1 rfl) ?_
    refine lv_bipush (v := (115 : Int32)) hx hb dX2_takesRegion_7 (by decide) ?_
    refine lv_icmp_eq (tgt := 30) hx hb dX2_takesRegion_9 (by decide) (fun hc => ?_) (fun hc => ?_)
    · have hF := oi_t hc hF
      exact wX2_takesRegion_30 ad A C0 M hr hF (lv_sub hl [0, 1] rfl)
    · have hF := oi_f hc hF
      refine lv_iload_n hx hb dX2_takesRegion_12 rfl (lv_at hl 1 rfl) ?_
      refine lv_bipush (v := (119 : Int32)) hx hb dX2_takesRegion_13 (by decide) ?_
      refine lv_icmp_eq (tgt := 30) hx hb dX2_takesRegion_15 (by decide) (fun hc => ?_) (fun hc => ?_)
      · have hF := oi_t hc hF
        exact wX2_takesRegion_30 ad A C0 M hr hF (lv_sub hl [0, 1] rfl)
      · have hF := oi_f hc hF
        refine lv_iload_n hx hb dX2_takesRegion_18 rfl (lv_at hl 1 rfl) ?_
        refine lv_bipush (v := (101 : Int32)) hx hb dX2_takesRegion_19 (by decide) ?_
        refine lv_icmp_eq (tgt := 30) hx hb dX2_takesRegion_21 (by decide) (fun hc => ?_) (fun hc => ?_)
        · have hF := oi_t hc hF
          exact wX2_takesRegion_30 ad A C0 M hr hF (lv_sub hl [0, 1] rfl)
        · have hF := oi_f hc hF
          refine lv_iload_n hx hb dX2_takesRegion_24 rfl (lv_at hl 1 rfl) ?_
          refine lv_bipush (v := (109 : Int32)) hx hb dX2_takesRegion_25 (by decide) ?_
          refine lv_icmp_ne (tgt := 34) hx hb dX2_takesRegion_27 (by decide) (fun hc => ?_) (fun hc => ?_)
          · have hF := oi_f hc hF
            refine lv_iconst (v := (0 : Int32)) hx hb dX2_takesRegion_34 (by decide) ?_
            exact wX2_takesRegion_35 ad A C0 M hr hF (lv_sub hl [0, 1] rfl)
          · have hF := oi_t hc hF
            exact wX2_takesRegion_30 ad A C0 M hr hF (lv_sub hl [0, 1] rfl)
set_option maxHeartbeats 4000000 in
set_option maxRecDepth 100000 in
theorem tX2_takesRegion (l : Launch) (D : va_G) (cy : Nat → ClassId) (ad : Nat → Nat) (A : Nat → Prop) {S S' : MS} {a0 : Nat} {a1 : Int32} {r : Int32} (h : fX2_takesRegion S a0 a1 = some (r, S')) : Met l yX2_takesRegion [Cond.code yX2_takesRegion cX2_takesRegion 3 (some .boolean)] rmX2_takesRegion (PcR D cy ad A S [.ref (ad a0), .int a1]) (QcM D cy ad A (m_n S) S' (some (.int r))) 0 0 A := by
  refine met_M (by decide +kernel) cw_X2_takesRegion (Nat.le_of_ble_eq_true rfl) ?_
  intro p e s m args below meth c ls C0 M hr hin hl
  have hl : lv_has ls 3 [(0, .ref (ad a0)), (1, .int a1)] := hl
  exact wX2_takesRegion_0 ad A C0 M hr h hl
set_option maxHeartbeats 4000000 in
set_option maxRecDepth 100000 in
theorem wX2_takesSign_14 {p : Program} {l : Launch} {e : Env} {s : State} {m : MethodId} {args : Array Value} {below : List Frame} {meth : Method} {c : Code} {D : va_G} {cy : Nat → ClassId} (ad : Nat → Nat) (A : Nat → Prop) {S : MS} {S' : MS} {H : Heap} {locs : List Loc} {n0 : Nat} {r : Int32} {ls : Array Slot} {x0 : Nat} {x1 : Int32} (C0 : CX p s m args meth c RX2 cX2_takesSign 2 D cy) (M : ST D cy ad A s.heap (ZN n0 s.heap.size) S H locs) (hr : meth.sig.returnType = some .boolean) (hF : bX2_takesSign_14 S x0 x1 = some (r, S')) (hl : lv_has ls 2 [(0, .ref (ad x0)), (1, .int x1)]) : W p l e rmX2_takesSign s m args below meth c H locs 0 0 (MQ below (QcM D cy ad A n0 S' (some (.int r))) args s 0 0 A) (F0 m 14 ls []) := by
  unfold bX2_takesSign_14 at hF
  obtain ⟨hx, hb, -, hown, -, hts, -⟩ := id C0
  refine lv_aload_n hx hb dX2_takesSign_14 rfl (lv_at hl 0 rfl) ?_
  obtain ⟨v15, hv, hF⟩ := ob hF
  refine k_getP C0 M.1 hv fl_X2_19 dX2_takesSign_15 ?_
  refine lv_aload_n hx hb dX2_takesSign_18 rfl (lv_at hl 0 rfl) ?_
  obtain ⟨v19, hv, hF⟩ := ob hF
  refine k_getI C0 M.1 hv fl_X2_9 dX2_takesSign_19 ?_
  refine lv_iload_n hx hb dX2_takesSign_22 rfl (lv_at hl 1 rfl) ?_
  obtain ⟨S23, hv, hF⟩ := ob hF
  refine k_st C0 M hv dX2_takesSign_23 (fun H locs M => ?_)
  refine lv_aload_n hx hb dX2_takesSign_24 rfl (lv_at hl 0 rfl) ?_
  refine lv_iconst (v := (2 : Int32)) hx hb dX2_takesSign_25 (by decide) ?_
  obtain ⟨S26, hv, hF⟩ := ob hF
  refine k_sI C0 M hv fl_X2_25 dX2_takesSign_26 (fun H locs M => ?_)
  refine lv_iconst (v := (1 : Int32)) hx hb dX2_takesSign_29 (by decide) ?_
  have hz : o_zb (1 : Int32) = some (1 : Int32) := rfl
  obtain ⟨rfl, rfl⟩ := Prod.mk.inj (Option.some.inj hF)
  exact rt_MZ C0 M hr hz dX2_takesSign_30
set_option maxHeartbeats 4000000 in
set_option maxRecDepth 100000 in
theorem wX2_takesSign_0 {p : Program} {l : Launch} {e : Env} {s : State} {m : MethodId} {args : Array Value} {below : List Frame} {meth : Method} {c : Code} {D : va_G} {cy : Nat → ClassId} (ad : Nat → Nat) (A : Nat → Prop) {S : MS} {S' : MS} {H : Heap} {locs : List Loc} {n0 : Nat} {r : Int32} {ls : Array Slot} {x0 : Nat} {x1 : Int32} (C0 : CX p s m args meth c RX2 cX2_takesSign 2 D cy) (M : ST D cy ad A s.heap (ZN n0 s.heap.size) S H locs) (hr : meth.sig.returnType = some .boolean) (hF : bX2_takesSign_0 S x0 x1 = some (r, S')) (hl : lv_has ls 2 [(0, .ref (ad x0)), (1, .int x1)]) : W p l e rmX2_takesSign s m args below meth c H locs 0 0 (MQ below (QcM D cy ad A n0 S' (some (.int r))) args s 0 0 A) (F0 m 0 ls []) := by
  unfold bX2_takesSign_0 at hF
  obtain ⟨hx, hb, -, hown, -, hts, -⟩ := id C0
  refine lv_iload_n hx hb dX2_takesSign_0 rfl (lv_at hl 1 rfl) ?_
  refine lv_bipush (v := (60 : Int32)) hx hb dX2_takesSign_1 (by decide) ?_
  refine lv_icmp_eq (tgt := 14) hx hb dX2_takesSign_3 (by decide) (fun hc => ?_) (fun hc => ?_)
  · have hF := oi_t hc hF
    exact wX2_takesSign_14 ad A C0 M hr hF (lv_sub hl [0, 1] rfl)
  · have hF := oi_f hc hF
    refine lv_iload_n hx hb dX2_takesSign_6 rfl (lv_at hl 1 rfl) ?_
    refine lv_bipush (v := (62 : Int32)) hx hb dX2_takesSign_7 (by decide) ?_
    refine lv_icmp_eq (tgt := 14) hx hb dX2_takesSign_9 (by decide) (fun hc => ?_) (fun hc => ?_)
    · have hF := oi_t hc hF
      exact wX2_takesSign_14 ad A C0 M hr hF (lv_sub hl [0, 1] rfl)
    · have hF := oi_f hc hF
      refine lv_iconst (v := (0 : Int32)) hx hb dX2_takesSign_12 (by decide) ?_
      have hz : o_zb (0 : Int32) = some (0 : Int32) := rfl
      obtain ⟨rfl, rfl⟩ := Prod.mk.inj (Option.some.inj hF)
      exact rt_MZ C0 M hr hz dX2_takesSign_13
set_option maxHeartbeats 4000000 in
set_option maxRecDepth 100000 in
theorem tX2_takesSign (l : Launch) (D : va_G) (cy : Nat → ClassId) (ad : Nat → Nat) (A : Nat → Prop) {S S' : MS} {a0 : Nat} {a1 : Int32} {r : Int32} (h : fX2_takesSign S a0 a1 = some (r, S')) : Met l yX2_takesSign [Cond.code yX2_takesSign cX2_takesSign 2 (some .boolean)] rmX2_takesSign (PcR D cy ad A S [.ref (ad a0), .int a1]) (QcM D cy ad A (m_n S) S' (some (.int r))) 0 0 A := by
  refine met_M (by decide +kernel) cw_X2_takesSign (Nat.le_of_ble_eq_true rfl) ?_
  intro p e s m args below meth c ls C0 M hr hin hl
  have hl : lv_has ls 2 [(0, .ref (ad a0)), (1, .int a1)] := hl
  exact wX2_takesSign_0 ad A C0 M hr h hl
set_option maxHeartbeats 4000000 in
set_option maxRecDepth 100000 in
theorem wX2_takes_62 {p : Program} {l : Launch} {e : Env} {s : State} {m : MethodId} {args : Array Value} {below : List Frame} {meth : Method} {c : Code} {D : va_G} {cy : Nat → ClassId} (ad : Nat → Nat) (A : Nat → Prop) {S : MS} {S' : MS} {H : Heap} {locs : List Loc} {n0 : Nat} {r : Int32} {ls : Array Slot} {z0 : Int32} (C0 : CX p s m args meth c RX2 cX2_takes 2 D cy) (M : ST D cy ad A s.heap (ZN n0 s.heap.size) S H locs) (hr : meth.sig.returnType = some .boolean) (hF : bX2_takes_62 S z0 = some (r, S')) (hl : lv_has ls 2 []) : W p l e rmX2_takes s m args below meth c H locs 0 0 (MQ below (QcM D cy ad A n0 S' (some (.int r))) args s 0 0 A) (F0 m 62 ls [.int z0]) := by
  unfold bX2_takes_62 at hF
  obtain ⟨hx, hb, -, hown, -, hts, -⟩ := id C0
  obtain ⟨z62, hz, hF⟩ := ob hF
  have hz2 := (o_if hz).2
  refine vtopi hz2 ?_
  rw [hz2] at hz
  obtain ⟨rfl, rfl⟩ := Prod.mk.inj (Option.some.inj hF)
  exact rt_MZ C0 M hr hz dX2_takes_62
set_option maxHeartbeats 4000000 in
set_option maxRecDepth 100000 in
theorem wX2_takes_0 {p : Program} {l : Launch} {e : Env} {s : State} {m : MethodId} {args : Array Value} {below : List Frame} {meth : Method} {c : Code} {D : va_G} {cy : Nat → ClassId} (ad : Nat → Nat) (A : Nat → Prop) {S : MS} {S' : MS} {H : Heap} {locs : List Loc} {n0 : Nat} {r : Int32} {ls : Array Slot} {x0 : Nat} {x1 : Int32} (C0 : CX p s m args meth c RX2 cX2_takes 2 D cy) (M : ST D cy ad A s.heap (ZN n0 s.heap.size) S H locs) (hr : meth.sig.returnType = some .boolean) (hF : bX2_takes_0 S x0 x1 = some (r, S')) (hl : lv_has ls 2 [(0, .ref (ad x0)), (1, .int x1)]) : W p l e rmX2_takes s m args below meth c H locs 0 0 (MQ below (QcM D cy ad A n0 S' (some (.int r))) args s 0 0 A) (F0 m 0 ls []) := by
  unfold bX2_takes_0 at hF
  obtain ⟨hx, hb, -, hown, -, hts, -⟩ := id C0
  refine lv_aload_n hx hb dX2_takes_0 rfl (lv_at hl 0 rfl) ?_
  obtain ⟨v1, hv, hF⟩ := ob hF
  refine k_getI C0 M.1 hv fl_X2_25 dX2_takes_1 ?_
  by_cases hc0 : v1 = (0 : Int32)
  · have hF := oi_t hc0 hF
    refine lv_lookup (tgt := 32) (off := 28) hx hb dX2_takes_4 (by decide) (by rw [hc0]; rfl) (by decide) ?_
    refine lv_aload_n hx hb dX2_takes_32 rfl (lv_at hl 0 rfl) ?_
    refine lv_iload_n hx hb dX2_takes_33 rfl (lv_at hl 1 rfl) ?_
    obtain ⟨_, hrec, hF⟩ := ob hF
    obtain ⟨v34, S34, hcl, hF⟩ := ob2 hF
    refine go_MI (r_V (rest := []) (As := [.int x1]) C0 cb_X2_35 M.1 hrec (tX2_takesRegion l D cy ad A hcl) (pre_R C0 M.1) hl dX2_takes_34 rfl (Nat.le_of_ble_eq_true rfl) ⟨rfl, rfl⟩ ⟨Nat.le_of_ble_eq_true rfl, Nat.le_of_ble_eq_true rfl⟩ ⟨Nat.le_of_ble_eq_true rfl, Nat.le_of_ble_eq_true rfl⟩ rfl) M (fun H locs M => ?_)
    obtain ⟨z37, hz, hF⟩ := ob hF
    have hz2 := (o_if hz).2
    refine vtopi hz2 ?_
    rw [hz2] at hz
    obtain ⟨rfl, rfl⟩ := Prod.mk.inj (Option.some.inj hF)
    exact rt_MZ C0 M hr hz dX2_takes_37
  have hF := oi_f hc0 hF
  by_cases hc1 : v1 = (1 : Int32)
  · have hF := oi_t hc1 hF
    refine lv_lookup (tgt := 38) (off := 34) hx hb dX2_takes_4 (by decide) (by rw [hc1]; rfl) (by decide) ?_
    refine lv_aload_n hx hb dX2_takes_38 rfl (lv_at hl 0 rfl) ?_
    refine lv_iload_n hx hb dX2_takes_39 rfl (lv_at hl 1 rfl) ?_
    obtain ⟨_, hrec, hF⟩ := ob hF
    obtain ⟨v40, S40, hcl, hF⟩ := ob2 hF
    refine go_MI (r_V (rest := []) (As := [.int x1]) C0 cb_X2_38 M.1 hrec (tX2_takesSign l D cy ad A hcl) (pre_R C0 M.1) hl dX2_takes_40 rfl (Nat.le_of_ble_eq_true rfl) ⟨rfl, rfl⟩ ⟨Nat.le_of_ble_eq_true rfl, Nat.le_of_ble_eq_true rfl⟩ ⟨Nat.le_of_ble_eq_true rfl, Nat.le_of_ble_eq_true rfl⟩ rfl) M (fun H locs M => ?_)
    obtain ⟨z43, hz, hF⟩ := ob hF
    have hz2 := (o_if hz).2
    refine vtopi hz2 ?_
    rw [hz2] at hz
    obtain ⟨rfl, rfl⟩ := Prod.mk.inj (Option.some.inj hF)
    exact rt_MZ C0 M hr hz dX2_takes_43
  have hF := oi_f hc1 hF
  refine lv_lookup (tgt := 44) (off := 40) hx hb dX2_takes_4 (by decide) (by have hd0 : ¬ v1.toInt = 0 := tne hc0 (by decide); have hd1 : ¬ v1.toInt = 1 := tne hc1 (by decide); simp [Op.lookupswitch.offset, hd0, hd1, Ne.symm hd0, Ne.symm hd1]) (by decide) ?_
  refine lv_iload_n hx hb dX2_takes_44 rfl (lv_at hl 1 rfl) ?_
  refine lv_bipush (v := (44 : Int32)) hx hb dX2_takes_45 (by decide) ?_
  refine lv_icmp_ne (tgt := 57) hx hb dX2_takes_47 (by decide) (fun hc => ?_) (fun hc => ?_)
  · have hF := oi_f hc hF
    refine lv_aload_n hx hb dX2_takes_57 rfl (lv_at hl 0 rfl) ?_
    refine lv_iload_n hx hb dX2_takes_58 rfl (lv_at hl 1 rfl) ?_
    obtain ⟨_, hrec, hF⟩ := ob hF
    obtain ⟨v59, S59, hcl, hF⟩ := ob2 hF
    refine go_MI (r_V (rest := []) (As := [.int x1]) C0 cb_X2_45 M.1 hrec (tX2_takesDigit l D cy ad A hcl) (pre_R C0 M.1) hl dX2_takes_59 rfl (Nat.le_of_ble_eq_true rfl) ⟨rfl, rfl⟩ ⟨Nat.le_of_ble_eq_true rfl, Nat.le_of_ble_eq_true rfl⟩ ⟨Nat.le_of_ble_eq_true rfl, Nat.le_of_ble_eq_true rfl⟩ rfl) M (fun H locs M => ?_)
    exact wX2_takes_62 ad A C0 M hr hF (lv_sub hl [] rfl)
  · have hF := oi_t hc hF
    refine lv_aload_n hx hb dX2_takes_50 rfl (lv_at hl 0 rfl) ?_
    obtain ⟨_, hrec, hF⟩ := ob hF
    obtain ⟨v51, S51, hcl, hF⟩ := ob2 hF
    refine go_MI (r_V (rest := []) (As := []) C0 cb_X2_41 M.1 hrec (tX2_takesComma l D cy ad A hcl) (pre_R C0 M.1) hl dX2_takes_51 rfl (Nat.le_of_ble_eq_true rfl) ⟨rfl, rfl⟩ ⟨Nat.le_of_ble_eq_true rfl, Nat.le_of_ble_eq_true rfl⟩ ⟨Nat.le_of_ble_eq_true rfl, Nat.le_of_ble_eq_true rfl⟩ rfl) M (fun H locs M => ?_)
    refine lv_goto (tgt := 62) hx hb dX2_takes_54 (by decide) ?_
    exact wX2_takes_62 ad A C0 M hr hF (lv_sub hl [] rfl)
set_option maxHeartbeats 4000000 in
set_option maxRecDepth 100000 in
theorem tX2_takes (l : Launch) (D : va_G) (cy : Nat → ClassId) (ad : Nat → Nat) (A : Nat → Prop) {S S' : MS} {a0 : Nat} {a1 : Int32} {r : Int32} (h : fX2_takes S a0 a1 = some (r, S')) : Met l yX2_takes [Cond.code yX2_takes cX2_takes 2 (some .boolean)] rmX2_takes (PcR D cy ad A S [.ref (ad a0), .int a1]) (QcM D cy ad A (m_n S) S' (some (.int r))) 0 0 A := by
  refine met_M (by decide +kernel) cw_X2_takes (Nat.le_of_ble_eq_true rfl) ?_
  intro p e s m args below meth c ls C0 M hr hin hl
  have hl : lv_has ls 2 [(0, .ref (ad a0)), (1, .int a1)] := hl
  exact wX2_takes_0 ad A C0 M hr h hl
set_option maxHeartbeats 4000000 in
set_option maxRecDepth 100000 in
theorem wX2_firstFaultOf_0 {p : Program} {l : Launch} {e : Env} {s : State} {m : MethodId} {args : Array Value} {below : List Frame} {meth : Method} {c : Code} {D : va_G} {cy : Nat → ClassId} (ad : Nat → Nat) (A : Nat → Prop) {S : MS} {S' : MS} {H : Heap} {locs : List Loc} {n0 : Nat} {r : Int32} {out : ((Nat × Nat × Int32 × Int32 × Int32 × MS) ⊕ (Int32 × MS))} {ls : Array Slot} {x0 : Nat} {x1 : Nat} {x2 : Int32} {x3 : Int32} (C0 : CX p s m args meth c RX2 cX2_firstFaultOf 5 D cy) (M : ST D cy ad A s.heap (ZN n0 s.heap.size) S H locs) (hr : meth.sig.returnType = some .int) (hF : bX2_firstFaultOf_0 S x0 x1 x2 x3 = some out) (hl : lv_has ls 5 [(0, .ref (ad x0)), (1, .ref (ad x1)), (2, .int x2), (3, .int x3)]) (Kr : ∀ r9, out = .inr r9 → r9 = (r, S')) (Kh0 : ∀ (y0 : Nat) (y1 : Nat) (y2 : Int32) (y3 : Int32) (y4 : Int32) (S2 : MS), out = .inl (y0, y1, y2, y3, y4, S2) → ∀ (H1 : Heap) (locs1 : List Loc) (ls1 : Array Slot), ST D cy ad A s.heap (ZN n0 s.heap.size) S2 H1 locs1 → lv_has ls1 5 [(0, .ref (ad y0)), (1, .ref (ad y1)), (2, .int y2), (3, .int y3), (4, .int y4)] → W p l e rmX2_firstFaultOf s m args below meth c H1 locs1 0 0 (MQ below (QcM D cy ad A n0 S' (some (.int r))) args s 0 0 A) (F0 m 3 ls1 [])) : W p l e rmX2_firstFaultOf s m args below meth c H locs 0 0 (MQ below (QcM D cy ad A n0 S' (some (.int r))) args s 0 0 A) (F0 m 0 ls []) := by
  unfold bX2_firstFaultOf_0 at hF
  obtain ⟨hx, hb, -, hown, -, hts, -⟩ := id C0
  refine lv_iconst (v := (0 : Int32)) hx hb dX2_firstFaultOf_0 (by decide) ?_
  refine lv_istore (lv' := [(4, .int (0 : Int32)), (0, .ref (ad x0)), (1, .ref (ad x1)), (2, .int x2), (3, .int x3)]) hx hb dX2_firstFaultOf_1 hl (by decide) rfl (fun ls hl => ?_)
  exact Kh0 _ _ _ _ _ _ (Option.some.inj hF).symm _ _ _ M (lv_sub hl [1, 2, 3, 4, 0] rfl)
set_option maxHeartbeats 4000000 in
set_option maxRecDepth 100000 in
theorem wX2_firstFaultOf_45 {p : Program} {l : Launch} {e : Env} {s : State} {m : MethodId} {args : Array Value} {below : List Frame} {meth : Method} {c : Code} {D : va_G} {cy : Nat → ClassId} (ad : Nat → Nat) (A : Nat → Prop) {S : MS} {S' : MS} {H : Heap} {locs : List Loc} {n0 : Nat} {r : Int32} {out : ((Nat × Nat × Int32 × Int32 × Int32 × MS) ⊕ (Int32 × MS))} {ls : Array Slot} {z0 : Int32} (C0 : CX p s m args meth c RX2 cX2_firstFaultOf 5 D cy) (M : ST D cy ad A s.heap (ZN n0 s.heap.size) S H locs) (hr : meth.sig.returnType = some .int) (hF : bX2_firstFaultOf_45 S z0 = some out) (hl : lv_has ls 5 []) (Kr : ∀ r9, out = .inr r9 → r9 = (r, S')) (Kh0 : ∀ (y0 : Nat) (y1 : Nat) (y2 : Int32) (y3 : Int32) (y4 : Int32) (S2 : MS), out = .inl (y0, y1, y2, y3, y4, S2) → ∀ (H1 : Heap) (locs1 : List Loc) (ls1 : Array Slot), ST D cy ad A s.heap (ZN n0 s.heap.size) S2 H1 locs1 → lv_has ls1 5 [(0, .ref (ad y0)), (1, .ref (ad y1)), (2, .int y2), (3, .int y3), (4, .int y4)] → W p l e rmX2_firstFaultOf s m args below meth c H1 locs1 0 0 (MQ below (QcM D cy ad A n0 S' (some (.int r))) args s 0 0 A) (F0 m 3 ls1 [])) : W p l e rmX2_firstFaultOf s m args below meth c H locs 0 0 (MQ below (QcM D cy ad A n0 S' (some (.int r))) args s 0 0 A) (F0 m 45 ls [.int z0]) := by
  unfold bX2_firstFaultOf_45 at hF
  obtain ⟨hx, hb, -, hown, -, hts, -⟩ := id C0
  obtain ⟨rfl, rfl⟩ := Prod.mk.inj (Kr _ (Option.some.inj hF).symm)
  exact rt_MI C0 M hr dX2_firstFaultOf_45
set_option maxHeartbeats 4000000 in
set_option maxRecDepth 100000 in
theorem wX2_firstFaultOf_3 {p : Program} {l : Launch} {e : Env} {s : State} {m : MethodId} {args : Array Value} {below : List Frame} {meth : Method} {c : Code} {D : va_G} {cy : Nat → ClassId} (ad : Nat → Nat) (A : Nat → Prop) {S : MS} {S' : MS} {H : Heap} {locs : List Loc} {n0 : Nat} {r : Int32} {out : ((Nat × Nat × Int32 × Int32 × Int32 × MS) ⊕ (Int32 × MS))} {ls : Array Slot} {x0 : Nat} {x1 : Nat} {x2 : Int32} {x3 : Int32} {x4 : Int32} (C0 : CX p s m args meth c RX2 cX2_firstFaultOf 5 D cy) (M : ST D cy ad A s.heap (ZN n0 s.heap.size) S H locs) (hr : meth.sig.returnType = some .int) (hF : bX2_firstFaultOf_3 S x0 x1 x2 x3 x4 = some out) (hl : lv_has ls 5 [(0, .ref (ad x0)), (1, .ref (ad x1)), (2, .int x2), (3, .int x3), (4, .int x4)]) (Kr : ∀ r9, out = .inr r9 → r9 = (r, S')) (Kh0 : ∀ (y0 : Nat) (y1 : Nat) (y2 : Int32) (y3 : Int32) (y4 : Int32) (S2 : MS), out = .inl (y0, y1, y2, y3, y4, S2) → ∀ (H1 : Heap) (locs1 : List Loc) (ls1 : Array Slot), ST D cy ad A s.heap (ZN n0 s.heap.size) S2 H1 locs1 → lv_has ls1 5 [(0, .ref (ad y0)), (1, .ref (ad y1)), (2, .int y2), (3, .int y3), (4, .int y4)] → W p l e rmX2_firstFaultOf s m args below meth c H1 locs1 0 0 (MQ below (QcM D cy ad A n0 S' (some (.int r))) args s 0 0 A) (F0 m 3 ls1 [])) : W p l e rmX2_firstFaultOf s m args below meth c H locs 0 0 (MQ below (QcM D cy ad A n0 S' (some (.int r))) args s 0 0 A) (F0 m 3 ls []) := by
  unfold bX2_firstFaultOf_3 at hF
  obtain ⟨hx, hb, -, hown, -, hts, -⟩ := id C0
  refine lv_iload hx hb dX2_firstFaultOf_3 (lv_at hl 4 rfl) ?_
  refine lv_iload_n hx hb dX2_firstFaultOf_5 rfl (lv_at hl 3 rfl) ?_
  refine lv_icmp_ge (tgt := 31) hx hb dX2_firstFaultOf_6 (by decide) (fun hc => ?_) (fun hc => ?_)
  · have hF := oi_t hc hF
    refine lv_aload_n hx hb dX2_firstFaultOf_31 rfl (lv_at hl 0 rfl) ?_
    obtain ⟨v32, hv, hF⟩ := ob hF
    refine k_getI C0 M.1 hv fl_X2_25 dX2_firstFaultOf_32 ?_
    refine lv_iconst (v := (3 : Int32)) hx hb dX2_firstFaultOf_35 (by decide) ?_
    refine lv_icmp_ne (tgt := 44) hx hb dX2_firstFaultOf_36 (by decide) (fun hc => ?_) (fun hc => ?_)
    · have hF := oi_f hc hF
      refine lv_iload_n hx hb dX2_firstFaultOf_44 rfl (lv_at hl 3 rfl) ?_
      exact wX2_firstFaultOf_45 ad A C0 M hr hF (lv_sub hl [] rfl) Kr Kh0
    · have hF := oi_t hc hF
      refine lv_bipush (v := (-9 : Int32)) hx hb dX2_firstFaultOf_39 (by decide) ?_
      refine lv_goto (tgt := 45) hx hb dX2_firstFaultOf_41 (by decide) ?_
      exact wX2_firstFaultOf_45 ad A C0 M hr hF (lv_sub hl [] rfl) Kr Kh0
  · have hF := oi_f hc hF
    refine lv_aload_n hx hb dX2_firstFaultOf_9 rfl (lv_at hl 0 rfl) ?_
    refine lv_aload_n hx hb dX2_firstFaultOf_10 rfl (lv_at hl 1 rfl) ?_
    refine lv_iload_n hx hb dX2_firstFaultOf_11 rfl (lv_at hl 2 rfl) ?_
    refine lv_iload hx hb dX2_firstFaultOf_12 (lv_at hl 4 rfl) ?_
    refine lv_iadd hx hb dX2_firstFaultOf_14 ?_
    obtain ⟨v15, hv, hF⟩ := ob hF
    refine k_ld C0 M.1 hv dX2_firstFaultOf_15 ?_
    obtain ⟨_, hrec, hF⟩ := ob hF
    obtain ⟨v16, S16, hcl, hF⟩ := ob2 hF
    refine go_MI (r_V (rest := []) (As := [.int v15]) C0 cb_X2_31 M.1 hrec (tX2_takes l D cy ad A hcl) (pre_R C0 M.1) hl dX2_firstFaultOf_16 rfl (Nat.le_of_ble_eq_true rfl) ⟨rfl, rfl⟩ ⟨Nat.le_of_ble_eq_true rfl, Nat.le_of_ble_eq_true rfl⟩ ⟨Nat.le_of_ble_eq_true rfl, Nat.le_of_ble_eq_true rfl⟩ rfl) M (fun H locs M => ?_)
    refine lv_if_ne (tgt := 25) hx hb dX2_firstFaultOf_19 (by decide) (fun hc => ?_) (fun hc => ?_)
    · have hF := oi_f hc hF
      obtain ⟨v25, hv, hF⟩ := ob hF
      refine lv_iinc (v := v25) (lv' := [(4, .int v25), (0, .ref (ad x0)), (1, .ref (ad x1)), (2, .int x2), (3, .int x3)]) hx hb dX2_firstFaultOf_25 hl (k := 4) rfl (by rw [← vtI hv]; rfl) (by decide) rfl (fun ls hl => ?_)
      refine lv_goto (tgt := 3) hx hb dX2_firstFaultOf_28 (by decide) ?_
      exact Kh0 _ _ _ _ _ _ (Option.some.inj hF).symm _ _ _ M (lv_sub hl [1, 2, 3, 4, 0] rfl)
    · have hF := oi_t hc hF
      refine lv_iload hx hb dX2_firstFaultOf_22 (lv_at hl 4 rfl) ?_
      obtain ⟨rfl, rfl⟩ := Prod.mk.inj (Kr _ (Option.some.inj hF).symm)
      exact rt_MI C0 M hr dX2_firstFaultOf_24
set_option maxHeartbeats 4000000 in
set_option maxRecDepth 100000 in
theorem tX2_firstFaultOf (l : Launch) (D : va_G) (cy : Nat → ClassId) (ad : Nat → Nat) (A : Nat → Prop) {S S' : MS} {a0 : Nat} {a1 : Nat} {a2 : Int32} {a3 : Int32} {r : Int32} (h : fX2_firstFaultOf S a0 a1 a2 a3 = some (r, S')) : Met l yX2_firstFaultOf [Cond.code yX2_firstFaultOf cX2_firstFaultOf 5 (some .int)] rmX2_firstFaultOf (PcR D cy ad A S [.ref (ad a0), .ref (ad a1), .int a2, .int a3]) (QcM D cy ad A (m_n S) S' (some (.int r))) 0 0 A := by
  refine met_M (by decide +kernel) cw_X2_firstFaultOf (Nat.le_of_ble_eq_true rfl) ?_
  intro p e s m args below meth c ls C0 M hr hin hl
  have hl : lv_has ls 5 [(0, .ref (ad a0)), (1, .ref (ad a1)), (2, .int a2), (3, .int a3)] := hl
  have key := lim_walk (step := sX2_firstFaultOf) (fun (q : (Nat × Nat × Int32 × Int32 × Int32 × MS)) (r9 : (Int32 × MS)) => ∀ (r : Int32) (S' : MS), r9 = (r, S') → ((∀ (y0 : Nat) (y1 : Nat) (y2 : Int32) (y3 : Int32) (y4 : Int32) (S2 : MS), q = (y0, y1, y2, y3, y4, S2) → ∀ (H1 : Heap) (locs1 : List Loc) (ls1 : Array Slot), ST D cy ad A s.heap (ZN (m_n S) s.heap.size) S2 H1 locs1 → lv_has ls1 5 [(0, .ref (ad y0)), (1, .ref (ad y1)), (2, .int y2), (3, .int y3), (4, .int y4)] → W p l e rmX2_firstFaultOf s m args below meth c H1 locs1 0 0 (MQ below (QcM D cy ad A (m_n S) S' (some (.int r))) args s 0 0 A) (F0 m 3 ls1 [])))) ?_
  · unfold fX2_firstFaultOf at h
    cases hs0 : bX2_firstFaultOf_0 S a0 a1 a2 a3 with
    | none => rw [hs0] at h; cases h
    | some out =>
      rw [hs0] at h
      refine wX2_firstFaultOf_0 ad A C0 M hr hs0 hl (fun r9 hr9 => ?_) ?_
      · subst hr9; exact Option.some.inj h
      · intro y0 y1 y2 y3 y4 y5 hq; subst hq; exact (key _ _ h _ _ rfl) _ _ _ _ _ _ rfl
  · intro q r9 out hst hre hin9
    intro r S' er; subst er
    refine ?_
    · intro y0 y1 y2 y3 y4 y5 hq H1 locs1 ls1 M hl
      subst hq
      exact wX2_firstFaultOf_3 ad A C0 M hr hst hl hre (fun k0 k1 k2 k3 k4 k5 hk => (hin9 _ hk _ _ rfl) _ _ _ _ _ _ rfl)
set_option maxHeartbeats 4000000 in
set_option maxRecDepth 100000 in
theorem wX9_forecast_0 {p : Program} {l : Launch} {e : Env} {s : State} {m : MethodId} {args : Array Value} {below : List Frame} {meth : Method} {c : Code} {D : va_G} {cy : Nat → ClassId} (ad : Nat → Nat) (A : Nat → Prop) {S : MS} {S' : MS} {H : Heap} {locs : List Loc} {K0 : Nat} {r : Int32} {ls : Array Slot} {x0 : Nat} {x1 : Int32} {x2 : Int32} {x3 : Int32} {x4 : Int32} (C0 : CX p s m args meth c RX9 cX9_forecast 8 D cy) (hA : ∀ k, 0 < k → A (ad k)) (hs : ∀ k, K0 ≤ k → ad (k + 1) + 1 = ad (k + 2)) (hE : EX ad A s) (M : ST D cy ad A s.heap (ZA ad K0) S H locs) (hr : meth.sig.returnType = some .int) (hF : bX9_forecast_0 S x0 x1 x2 x3 x4 = some (r, S')) (hl : lv_has ls 8 [(0, .ref (ad x0)), (1, .int x1), (2, .int x2), (3, .int x3), (4, .int x4)]) : W p l e rmX9_forecast s m args below meth c H locs 0 0 (MQ below (QcA D cy ad A K0 S' (some (.int r))) args s 5 61 A) (F0 m 0 ls []) := by
  unfold bX9_forecast_0 at hF
  obtain ⟨hx, hb, -, hown, -, hts, -⟩ := id C0
  refine lv_aload_n hx hb dX9_forecast_0 rfl (lv_at hl 0 rfl) ?_
  refine lv_iconst (v := (0 : Int32)) hx hb dX9_forecast_1 (by decide) ?_
  obtain ⟨S2, hv, hF⟩ := ob hF
  refine k_sI C0 M hv fl_X9_76 dX9_forecast_2 (fun H locs M => ?_)
  refine lv_iload_n hx hb dX9_forecast_5 rfl (lv_at hl 1 rfl) ?_
  obtain ⟨v6, hcl, hF⟩ := ob hF
  refine go_SI (r_S (rest := []) (As := [.int x1]) C0 cb_X9_150 (tX9_isSheet l D cy ad hcl) (pre_S C0) hl dX9_forecast_6 rfl (Nat.le_of_ble_eq_true rfl) ⟨rfl, rfl⟩ ⟨Nat.le_of_ble_eq_true rfl, Nat.le_of_ble_eq_true rfl⟩ ⟨Nat.le_of_ble_eq_true rfl, Nat.le_of_ble_eq_true rfl⟩ rfl) ?_
  refine lv_if_ne (tgt := 14) hx hb dX9_forecast_9 (by decide) (fun hc => ?_) (fun hc => ?_)
  · have hF := oi_f hc hF
    refine lv_iload_n hx hb dX9_forecast_14 rfl (lv_at hl 2 rfl) ?_
    refine lv_iconst (v := (3 : Int32)) hx hb dX9_forecast_15 (by decide) ?_
    obtain ⟨v16, hcl, hF⟩ := ob hF
    refine go_SI (r_S (rest := []) (As := [.int x2, .int (3 : Int32)]) C0 cb_X9_79 (tX9_isBelow l D cy ad hcl) (pre_S C0) hl dX9_forecast_16 rfl (Nat.le_of_ble_eq_true rfl) ⟨rfl, rfl⟩ ⟨Nat.le_of_ble_eq_true rfl, Nat.le_of_ble_eq_true rfl⟩ ⟨Nat.le_of_ble_eq_true rfl, Nat.le_of_ble_eq_true rfl⟩ rfl) ?_
    refine lv_if_ne (tgt := 25) hx hb dX9_forecast_19 (by decide) (fun hc => ?_) (fun hc => ?_)
    · have hF := oi_f hc hF
      refine lv_aload_n hx hb dX9_forecast_25 rfl (lv_at hl 0 rfl) ?_
      obtain ⟨v26, hv, hF⟩ := ob hF
      refine k_getP C0 M.1 hv fl_X9_67 dX9_forecast_26 ?_
      refine lv_iload_n hx hb dX9_forecast_29 rfl (lv_at hl 1 rfl) ?_
      obtain ⟨v30, hv, hF⟩ := ob hF
      refine k_ldP (ty := (.object "ChartRoom$Sheet")) 2 C0 M.1 (by decide) rfl rfl hv dX9_forecast_30 ?_
      refine lv_iload_n hx hb dX9_forecast_31 rfl (lv_at hl 2 rfl) ?_
      refine lv_iload_n hx hb dX9_forecast_32 rfl (lv_at hl 3 rfl) ?_
      refine lv_iload hx hb dX9_forecast_33 (lv_at hl 4 rfl) ?_
      refine lv_i2l (v := (x4.toInt64)) hx hb dX9_forecast_35 rfl ?_
      obtain ⟨_, hrec, hF⟩ := ob hF
      obtain ⟨v36, hcl, hF⟩ := ob hF
      refine go_SI (r_V (rest := []) (As := [.int x2, .int x3, .long (x4.toInt64)]) C0 cb_X9_155 M.1 hrec (tX7_faultOfTaking l D cy ad A hcl) (pre_R C0 M.1) hl dX9_forecast_36 rfl (Nat.le_of_ble_eq_true rfl) ⟨rfl, rfl⟩ ⟨Nat.le_of_ble_eq_true rfl, Nat.le_of_ble_eq_true rfl⟩ ⟨Nat.le_of_ble_eq_true rfl, Nat.le_of_ble_eq_true rfl⟩ rfl) ?_
      refine lv_istore (lv' := [(5, .int v36), (0, .ref (ad x0)), (1, .int x1), (2, .int x2), (3, .int x3), (4, .int x4)]) hx hb dX9_forecast_39 hl (by decide) rfl (fun ls hl => ?_)
      refine lv_iload hx hb dX9_forecast_41 (lv_at hl 0 rfl) ?_
      refine lv_if_eq (tgt := 53) hx hb dX9_forecast_43 (by decide) (fun hc => ?_) (fun hc => ?_)
      · have hF := oi_t hc hF
        obtain ⟨o53, ho, hF⟩ := ob hF
        obtain ⟨S53, hv, hF⟩ := ob hF
        have ho := vtI ho
        have hv := vtI hv
        refine k_new C0 M hA hs nw_X9_323 (Nat.le_of_ble_eq_true rfl) (Nat.le_of_ble_eq_true rfl) dX9_forecast_53 (fun H M => ?_)
        rw [hv] at M
        rw [ho]
        refine W.widen (k := 1) (n := 6) (Nat.le_of_ble_eq_true rfl) (Nat.le_of_ble_eq_true rfl) ?_
        refine lv_dup hx hb dX9_forecast_56 rfl ?_
        obtain ⟨S57, hcl, hF⟩ := ob hF
        refine go_AV (r_IN (rest := [.ref (ad o53)]) (As := []) C0 cb_X9_325 (tX2_init l D cy ad A K0 hA hs hcl) (pre_A C0 hE M) hl dX9_forecast_57 rfl (Nat.le_of_ble_eq_true rfl) ⟨rfl, rfl⟩ ⟨Nat.le_of_ble_eq_true rfl, Nat.le_of_ble_eq_true rfl⟩ ⟨Nat.le_of_ble_eq_true rfl, Nat.le_of_ble_eq_true rfl⟩ rfl) M (fun H locs M => ?_)
        refine W.widen (k := 4) (n := 21) (Nat.le_of_ble_eq_true rfl) (Nat.le_of_ble_eq_true rfl) ?_
        refine lv_astore (lv' := [(6, .ref (ad o53)), (5, .int v36), (0, .ref (ad x0)), (1, .int x1), (2, .int x2), (3, .int x3), (4, .int x4)]) hx hb dX9_forecast_60 hl (by decide) rfl (fun ls hl => ?_)
        refine lv_aload hx hb dX9_forecast_62 (lv_at hl 0 rfl) ?_
        refine lv_aload_n hx hb dX9_forecast_64 rfl (lv_at hl 2 rfl) ?_
        obtain ⟨v65, hv, hF⟩ := ob hF
        refine k_getP C0 M.1 hv fl_X9_67 dX9_forecast_65 ?_
        refine lv_iload_n hx hb dX9_forecast_68 rfl (lv_at hl 3 rfl) ?_
        obtain ⟨v69, hv, hF⟩ := ob hF
        refine k_ldP (ty := (.object "ChartRoom$Sheet")) 2 C0 M.1 (by decide) rfl rfl hv dX9_forecast_69 ?_
        obtain ⟨v70, hv, hF⟩ := ob hF
        refine k_getP C0 M.1 hv fl_X9_162 dX9_forecast_70 ?_
        refine lv_iload_n hx hb dX9_forecast_73 rfl (lv_at hl 5 rfl) ?_
        refine lv_iload hx hb dX9_forecast_74 (lv_at hl 6 rfl) ?_
        obtain ⟨_, hrec, hF⟩ := ob hF
        obtain ⟨v76, S76, hcl, hF⟩ := ob2 hF
        refine go_MI (r_V (rest := []) (As := [.ref (ad v70), .int x3, .int x4]) C0 cb_X9_326 M.1 hrec (tX2_firstFaultOf l D cy ad A hcl) (pre_R C0 M.1) hl dX9_forecast_76 rfl (Nat.le_of_ble_eq_true rfl) ⟨rfl, rfl⟩ ⟨Nat.le_of_ble_eq_true rfl, Nat.le_of_ble_eq_true rfl⟩ ⟨Nat.le_of_ble_eq_true rfl, Nat.le_of_ble_eq_true rfl⟩ rfl) M (fun H locs M => ?_)
        refine lv_istore (lv' := [(7, .int v76), (6, .ref (ad o53)), (5, .int v36), (0, .ref (ad x0)), (1, .int x1), (2, .int x2), (3, .int x3), (4, .int x4)]) hx hb dX9_forecast_79 hl (by decide) rfl (fun ls hl => ?_)
        refine lv_iload hx hb dX9_forecast_81 (lv_at hl 0 rfl) ?_
        refine lv_bipush (v := (-9 : Int32)) hx hb dX9_forecast_83 (by decide) ?_
        refine lv_icmp_eq (tgt := 94) hx hb dX9_forecast_85 (by decide) (fun hc => ?_) (fun hc => ?_)
        · have hF := oi_t hc hF
          refine lv_aload_n hx hb dX9_forecast_94 rfl (lv_at hl 3 rfl) ?_
          obtain ⟨v95, hv, hF⟩ := ob hF
          refine k_getP C0 M.1 hv fl_X9_62 dX9_forecast_95 ?_
          obtain ⟨_, hrec, hF⟩ := ob hF
          obtain ⟨v98, hcl, hF⟩ := ob hF
          refine go_SI (r_V (rest := []) (As := []) C0 cb_X9_93 M.1 hrec (tJx4a65c_size_8abf5 l D cy ad A hcl) (pre_R C0 M.1) hl dX9_forecast_98 rfl (Nat.le_of_ble_eq_true rfl) ⟨rfl, rfl⟩ ⟨Nat.le_of_ble_eq_true rfl, Nat.le_of_ble_eq_true rfl⟩ ⟨Nat.le_of_ble_eq_true rfl, Nat.le_of_ble_eq_true rfl⟩ rfl) ?_
          refine lv_bipush (v := (8 : Int32)) hx hb dX9_forecast_101 (by decide) ?_
          refine lv_icmp_lt (tgt := 109) hx hb dX9_forecast_103 (by decide) (fun hc => ?_) (fun hc => ?_)
          · have hF := oi_t hc hF
            refine lv_aload_n hx hb dX9_forecast_109 rfl (lv_at hl 3 rfl) ?_
            obtain ⟨v110, hv, hF⟩ := ob hF
            refine k_getP C0 M.1 hv fl_X9_62 dX9_forecast_110 ?_
            refine lv_aload hx hb dX9_forecast_113 (lv_at hl 1 rfl) ?_
            obtain ⟨_, hrec, hF⟩ := ob hF
            obtain ⟨v115, S115, hcl, hF⟩ := ob2 hF
            refine go_AI (r_V (rest := []) (As := [.ref (ad o53)]) C0 cb_X9_102 M.1 hrec (tJx4a65c_add_9ea2d l D cy ad A K0 hA hs hcl) (pre_A C0 hE M) hl dX9_forecast_115 rfl (Nat.le_of_ble_eq_true rfl) ⟨rfl, rfl⟩ ⟨Nat.le_of_ble_eq_true rfl, Nat.le_of_ble_eq_true rfl⟩ ⟨Nat.le_of_ble_eq_true rfl, Nat.le_of_ble_eq_true rfl⟩ rfl) M (fun H locs M => ?_)
            refine W.widen (k := 5) (n := 61) (Nat.le_of_ble_eq_true rfl) (Nat.le_of_ble_eq_true rfl) ?_
            refine lv_pop hx hb dX9_forecast_118 rfl ?_
            refine lv_aload_n hx hb dX9_forecast_119 rfl (lv_at hl 3 rfl) ?_
            obtain ⟨v120, hv, hF⟩ := ob hF
            refine k_getP C0 M.1 hv fl_X9_62 dX9_forecast_120 ?_
            obtain ⟨_, hrec, hF⟩ := ob hF
            obtain ⟨v123, hcl, hF⟩ := ob hF
            refine go_SI (r_V (rest := []) (As := []) C0 cb_X9_93 M.1 hrec (tJx4a65c_size_8abf5 l D cy ad A hcl) (pre_R C0 M.1) hl dX9_forecast_123 rfl (Nat.le_of_ble_eq_true rfl) ⟨rfl, rfl⟩ ⟨Nat.le_of_ble_eq_true rfl, Nat.le_of_ble_eq_true rfl⟩ ⟨Nat.le_of_ble_eq_true rfl, Nat.le_of_ble_eq_true rfl⟩ rfl) ?_
            refine lv_iconst (v := (1 : Int32)) hx hb dX9_forecast_126 (by decide) ?_
            refine lv_isub hx hb dX9_forecast_127 ?_
            obtain ⟨rfl, rfl⟩ := Prod.mk.inj (Option.some.inj hF)
            exact rt_AI C0 M hr dX9_forecast_128
          · have hF := oi_f hc hF
            refine lv_bipush (v := (-4 : Int32)) hx hb dX9_forecast_106 (by decide) ?_
            obtain ⟨rfl, rfl⟩ := Prod.mk.inj (Option.some.inj hF)
            refine W.widen (k := 5) (n := 61) (Nat.le_of_ble_eq_true rfl) (Nat.le_of_ble_eq_true rfl) ?_
            exact rt_AI C0 M hr dX9_forecast_108
        · have hF := oi_f hc hF
          refine lv_bipush (v := (-100 : Int32)) hx hb dX9_forecast_88 (by decide) ?_
          refine lv_iload hx hb dX9_forecast_90 (lv_at hl 0 rfl) ?_
          refine lv_isub hx hb dX9_forecast_92 ?_
          obtain ⟨rfl, rfl⟩ := Prod.mk.inj (Option.some.inj hF)
          refine W.widen (k := 5) (n := 61) (Nat.le_of_ble_eq_true rfl) (Nat.le_of_ble_eq_true rfl) ?_
          exact rt_AI C0 M hr dX9_forecast_93
      · have hF := oi_f hc hF
        refine lv_aload_n hx hb dX9_forecast_46 rfl (lv_at hl 1 rfl) ?_
        refine lv_iload hx hb dX9_forecast_47 (lv_at hl 0 rfl) ?_
        obtain ⟨_, hrec, hF⟩ := ob hF
        obtain ⟨v49, S49, hcl, hF⟩ := ob2 hF
        refine go_MI (r_V (rest := []) (As := [.int v36]) C0 cb_X9_159 M.1 hrec (tX9_comeTo l D cy ad A hcl) (pre_R C0 M.1) hl dX9_forecast_49 rfl (Nat.le_of_ble_eq_true rfl) ⟨rfl, rfl⟩ ⟨Nat.le_of_ble_eq_true rfl, Nat.le_of_ble_eq_true rfl⟩ ⟨Nat.le_of_ble_eq_true rfl, Nat.le_of_ble_eq_true rfl⟩ rfl) M (fun H locs M => ?_)
        obtain ⟨rfl, rfl⟩ := Prod.mk.inj (Option.some.inj hF)
        refine W.widen (k := 5) (n := 61) (Nat.le_of_ble_eq_true rfl) (Nat.le_of_ble_eq_true rfl) ?_
        exact rt_AI C0 M hr dX9_forecast_52
    · have hF := oi_t hc hF
      refine lv_bipush (v := (-2 : Int32)) hx hb dX9_forecast_22 (by decide) ?_
      obtain ⟨rfl, rfl⟩ := Prod.mk.inj (Option.some.inj hF)
      refine W.widen (k := 5) (n := 61) (Nat.le_of_ble_eq_true rfl) (Nat.le_of_ble_eq_true rfl) ?_
      exact rt_AI C0 M hr dX9_forecast_24
  · have hF := oi_t hc hF
    refine lv_iconst (v := (-1 : Int32)) hx hb dX9_forecast_12 (by decide) ?_
    obtain ⟨rfl, rfl⟩ := Prod.mk.inj (Option.some.inj hF)
    refine W.widen (k := 5) (n := 61) (Nat.le_of_ble_eq_true rfl) (Nat.le_of_ble_eq_true rfl) ?_
    exact rt_AI C0 M hr dX9_forecast_13
set_option maxHeartbeats 4000000 in
set_option maxRecDepth 100000 in
theorem tX9_forecast (l : Launch) (D : va_G) (cy : Nat → ClassId) (ad : Nat → Nat) (A : Nat → Prop) (K0 : Nat) (hA : ∀ k, 0 < k → A (ad k)) (hs : ∀ k, K0 ≤ k → ad (k + 1) + 1 = ad (k + 2)) {S S' : MS} {a0 : Nat} {a1 : Int32} {a2 : Int32} {a3 : Int32} {a4 : Int32} {r : Int32} (h : fX9_forecast S a0 a1 a2 a3 a4 = some (r, S')) : Met l yX9_forecast [Cond.code yX9_forecast cX9_forecast 8 (some .int)] rmX9_forecast (PcA D cy ad A K0 S [.ref (ad a0), .int a1, .int a2, .int a3, .int a4]) (QcA D cy ad A K0 S' (some (.int r))) 5 61 A := by
  refine met_A (by decide +kernel) cw_X9_forecast (Nat.le_of_ble_eq_true rfl) ?_
  intro p e s m args below meth c ls C0 hE M hr hin hl
  have hl : lv_has ls 8 [(0, .ref (ad a0)), (1, .int a1), (2, .int a2), (3, .int a3), (4, .int a4)] := hl
  exact wX9_forecast_0 ad A C0 hA hs hE M hr h hl
set_option maxHeartbeats 4000000 in
set_option maxRecDepth 100000 in
theorem wX4_costWith_0 {p : Program} {l : Launch} {e : Env} {s : State} {m : MethodId} {args : Array Value} {below : List Frame} {meth : Method} {c : Code} {D : va_G} {cy : Nat → ClassId} (ad : Nat → Nat) (A : Nat → Prop) {S : MS} {r : Int32} {ls : Array Slot} {x0 : Nat} {x1 : Int32} {x2 : Int32} {x3 : Int32} (C0 : CX p s m args meth c RX4 cX4_costWith 4 D cy) (M : MW D cy ad A S s.heap) (hr : meth.sig.returnType = some .int) (hF : bX4_costWith_0 S x0 x1 x2 x3 = some r) (hl : lv_has ls 4 [(0, .ref (ad x0)), (1, .int x1), (2, .int x2), (3, .int x3)]) : W p l e rmX4_costWith s m args below meth c s.heap [] 0 0 (MQ below (QcS (some (.int r))) args s 0 0 (fun _ => False)) (F0 m 0 ls []) := by
  unfold bX4_costWith_0 at hF
  obtain ⟨hx, hb, -, hown, -, hts, -⟩ := id C0
  refine lv_aload_n hx hb dX4_costWith_0 rfl (lv_at hl 0 rfl) ?_
  obtain ⟨v1, hv, hF⟩ := ob hF
  refine k_getP C0 M hv fl_X4_11 dX4_costWith_1 ?_
  refine lv_iload_n hx hb dX4_costWith_4 rfl (lv_at hl 1 rfl) ?_
  obtain ⟨v5, hv, hF⟩ := ob hF
  refine k_ldP (ty := (.array .int)) 4 C0 M (by decide) rfl rfl hv dX4_costWith_5 ?_
  refine lv_iload_n hx hb dX4_costWith_6 rfl (lv_at hl 2 rfl) ?_
  obtain ⟨v7, hv, hF⟩ := ob hF
  refine k_ld C0 M hv dX4_costWith_7 ?_
  refine lv_aload_n hx hb dX4_costWith_8 rfl (lv_at hl 0 rfl) ?_
  obtain ⟨v9, hv, hF⟩ := ob hF
  refine k_getP C0 M hv fl_X4_16 dX4_costWith_9 ?_
  refine lv_iload_n hx hb dX4_costWith_12 rfl (lv_at hl 1 rfl) ?_
  refine lv_iconst (v := (1 : Int32)) hx hb dX4_costWith_13 (by decide) ?_
  refine lv_iadd hx hb dX4_costWith_14 ?_
  obtain ⟨v15, hv, hF⟩ := ob hF
  refine k_ldP (ty := (.array .int)) 4 C0 M (by decide) rfl rfl hv dX4_costWith_15 ?_
  refine lv_iload_n hx hb dX4_costWith_16 rfl (lv_at hl 3 rfl) ?_
  refine lv_iconst (v := (1 : Int32)) hx hb dX4_costWith_17 (by decide) ?_
  refine lv_iload_n hx hb dX4_costWith_18 rfl (lv_at hl 2 rfl) ?_
  refine lv_ishl hx hb dX4_costWith_19 ?_
  refine lv_ior hx hb dX4_costWith_20 ?_
  obtain ⟨v21, hv, hF⟩ := ob hF
  refine k_ld C0 M hv dX4_costWith_21 ?_
  refine lv_iadd hx hb dX4_costWith_22 ?_
  obtain rfl := (Option.some.inj hF)
  exact rt_SI C0 hr dX4_costWith_23
set_option maxHeartbeats 4000000 in
set_option maxRecDepth 100000 in
theorem tX4_costWith (l : Launch) (D : va_G) (cy : Nat → ClassId) (ad : Nat → Nat) (A : Nat → Prop) {S : MS} {a0 : Nat} {a1 : Int32} {a2 : Int32} {a3 : Int32} {r : Int32} (h : fX4_costWith S a0 a1 a2 a3 = some r) : Met l yX4_costWith [Cond.code yX4_costWith cX4_costWith 4 (some .int)] rmX4_costWith (PcR D cy ad A S [.ref (ad a0), .int a1, .int a2, .int a3]) (QcS (some (.int r))) 0 0 (fun _ => False) := by
  refine met_R (by decide +kernel) cw_X4_costWith (Nat.le_of_ble_eq_true rfl) ?_
  intro p e s m args below meth c ls C0 M hr hl
  have hl : lv_has ls 4 [(0, .ref (ad a0)), (1, .int a1), (2, .int a2), (3, .int a3)] := hl
  exact wX4_costWith_0 ad A C0 M hr h hl
set_option maxHeartbeats 4000000 in
set_option maxRecDepth 100000 in
theorem wX4_leastCost_0 {p : Program} {l : Launch} {e : Env} {s : State} {m : MethodId} {args : Array Value} {below : List Frame} {meth : Method} {c : Code} {D : va_G} {cy : Nat → ClassId} (ad : Nat → Nat) (A : Nat → Prop) {S : MS} {r : Int32} {out : ((Nat × Int32 × Int32 × Int32 × Int32 × Int32) ⊕ Int32)} {ls : Array Slot} {x0 : Nat} {x1 : Int32} {x2 : Int32} {x3 : Int32} (C0 : CX p s m args meth c RX4 cX4_leastCost 6 D cy) (M : MW D cy ad A S s.heap) (hr : meth.sig.returnType = some .int) (hF : bX4_leastCost_0 S x0 x1 x2 x3 = some out) (hl : lv_has ls 6 [(0, .ref (ad x0)), (1, .int x1), (2, .int x2), (3, .int x3)]) (Kr : ∀ r9, out = .inr r9 → r9 = r) (Kh0 : ∀ (y0 : Nat) (y1 : Int32) (y2 : Int32) (y3 : Int32) (y4 : Int32) (y5 : Int32), out = .inl (y0, y1, y2, y3, y4, y5) → ∀ (ls1 : Array Slot), lv_has ls1 6 [(0, .ref (ad y0)), (1, .int y1), (2, .int y2), (3, .int y3), (4, .int y4), (5, .int y5)] → W p l e rmX4_leastCost s m args below meth c s.heap [] 0 0 (MQ below (QcS (some (.int r))) args s 0 0 (fun _ => False)) (F0 m 18 ls1 [])) : W p l e rmX4_leastCost s m args below meth c s.heap [] 0 0 (MQ below (QcS (some (.int r))) args s 0 0 (fun _ => False)) (F0 m 0 ls []) := by
  unfold bX4_leastCost_0 at hF
  obtain ⟨hx, hb, -, hown, -, hts, -⟩ := id C0
  refine lv_bipush (v := (15 : Int32)) hx hb dX4_leastCost_0 (by decide) ?_
  refine lv_aload_n hx hb dX4_leastCost_2 rfl (lv_at hl 0 rfl) ?_
  obtain ⟨v3, hv, hF⟩ := ob hF
  refine k_getP C0 M hv fl_X4_16 dX4_leastCost_3 ?_
  refine lv_iload_n hx hb dX4_leastCost_6 rfl (lv_at hl 1 rfl) ?_
  refine lv_iconst (v := (1 : Int32)) hx hb dX4_leastCost_7 (by decide) ?_
  refine lv_iadd hx hb dX4_leastCost_8 ?_
  obtain ⟨v9, hv, hF⟩ := ob hF
  refine k_ldP (ty := (.array .int)) 4 C0 M (by decide) rfl rfl hv dX4_leastCost_9 ?_
  refine lv_iload_n hx hb dX4_leastCost_10 rfl (lv_at hl 2 rfl) ?_
  obtain ⟨v11, hv, hF⟩ := ob hF
  refine k_ld C0 M hv dX4_leastCost_11 ?_
  refine lv_iadd hx hb dX4_leastCost_12 ?_
  obtain ⟨v13, hv, hF⟩ := ob hF
  have hv := vtI hv
  refine vtopi hv ?_
  refine lv_istore (lv' := [(4, .int v13), (0, .ref (ad x0)), (1, .int x1), (2, .int x2), (3, .int x3)]) hx hb dX4_leastCost_13 hl (by decide) rfl (fun ls hl => ?_)
  refine lv_iconst (v := (0 : Int32)) hx hb dX4_leastCost_15 (by decide) ?_
  refine lv_istore (lv' := [(5, .int (0 : Int32)), (4, .int v13), (0, .ref (ad x0)), (1, .int x1), (2, .int x2), (3, .int x3)]) hx hb dX4_leastCost_16 hl (by decide) rfl (fun ls hl => ?_)
  exact Kh0 _ _ _ _ _ _ (Option.some.inj hF).symm _ (lv_sub hl [2, 3, 4, 5, 1, 0] rfl)
set_option maxHeartbeats 4000000 in
set_option maxRecDepth 100000 in
theorem wX4_leastCost_48 {p : Program} {l : Launch} {e : Env} {s : State} {m : MethodId} {args : Array Value} {below : List Frame} {meth : Method} {c : Code} {D : va_G} {cy : Nat → ClassId} (ad : Nat → Nat) (A : Nat → Prop) {S : MS} {r : Int32} {out : ((Nat × Int32 × Int32 × Int32 × Int32 × Int32) ⊕ Int32)} {ls : Array Slot} {x0 : Nat} {x1 : Int32} {x2 : Int32} {x3 : Int32} {x4 : Int32} {x5 : Int32} (C0 : CX p s m args meth c RX4 cX4_leastCost 6 D cy) (M : MW D cy ad A S s.heap) (hr : meth.sig.returnType = some .int) (hF : bX4_leastCost_48 S x0 x1 x2 x3 x4 x5 = some out) (hl : lv_has ls 6 [(0, .ref (ad x0)), (1, .int x1), (2, .int x2), (3, .int x3), (4, .int x4), (5, .int x5)]) (Kr : ∀ r9, out = .inr r9 → r9 = r) (Kh0 : ∀ (y0 : Nat) (y1 : Int32) (y2 : Int32) (y3 : Int32) (y4 : Int32) (y5 : Int32), out = .inl (y0, y1, y2, y3, y4, y5) → ∀ (ls1 : Array Slot), lv_has ls1 6 [(0, .ref (ad y0)), (1, .int y1), (2, .int y2), (3, .int y3), (4, .int y4), (5, .int y5)] → W p l e rmX4_leastCost s m args below meth c s.heap [] 0 0 (MQ below (QcS (some (.int r))) args s 0 0 (fun _ => False)) (F0 m 18 ls1 [])) : W p l e rmX4_leastCost s m args below meth c s.heap [] 0 0 (MQ below (QcS (some (.int r))) args s 0 0 (fun _ => False)) (F0 m 48 ls []) := by
  unfold bX4_leastCost_48 at hF
  obtain ⟨hx, hb, -, hown, -, hts, -⟩ := id C0
  obtain ⟨v48, hv, hF⟩ := ob hF
  refine lv_iinc (v := v48) (lv' := [(5, .int v48), (0, .ref (ad x0)), (1, .int x1), (2, .int x2), (3, .int x3), (4, .int x4)]) hx hb dX4_leastCost_48 hl (k := 5) rfl (by rw [← vtI hv]; rfl) (by decide) rfl (fun ls hl => ?_)
  refine lv_goto (tgt := 18) hx hb dX4_leastCost_51 (by decide) ?_
  exact Kh0 _ _ _ _ _ _ (Option.some.inj hF).symm _ (lv_sub hl [1, 2, 3, 4, 5, 0] rfl)
set_option maxHeartbeats 4000000 in
set_option maxRecDepth 100000 in
theorem wX4_leastCost_18 {p : Program} {l : Launch} {e : Env} {s : State} {m : MethodId} {args : Array Value} {below : List Frame} {meth : Method} {c : Code} {D : va_G} {cy : Nat → ClassId} (ad : Nat → Nat) (A : Nat → Prop) {S : MS} {r : Int32} {out : ((Nat × Int32 × Int32 × Int32 × Int32 × Int32) ⊕ Int32)} {ls : Array Slot} {x0 : Nat} {x1 : Int32} {x2 : Int32} {x3 : Int32} {x4 : Int32} {x5 : Int32} (C0 : CX p s m args meth c RX4 cX4_leastCost 6 D cy) (M : MW D cy ad A S s.heap) (hr : meth.sig.returnType = some .int) (hF : bX4_leastCost_18 S x0 x1 x2 x3 x4 x5 = some out) (hl : lv_has ls 6 [(0, .ref (ad x0)), (1, .int x1), (2, .int x2), (3, .int x3), (4, .int x4), (5, .int x5)]) (Kr : ∀ r9, out = .inr r9 → r9 = r) (Kh0 : ∀ (y0 : Nat) (y1 : Int32) (y2 : Int32) (y3 : Int32) (y4 : Int32) (y5 : Int32), out = .inl (y0, y1, y2, y3, y4, y5) → ∀ (ls1 : Array Slot), lv_has ls1 6 [(0, .ref (ad y0)), (1, .int y1), (2, .int y2), (3, .int y3), (4, .int y4), (5, .int y5)] → W p l e rmX4_leastCost s m args below meth c s.heap [] 0 0 (MQ below (QcS (some (.int r))) args s 0 0 (fun _ => False)) (F0 m 18 ls1 [])) : W p l e rmX4_leastCost s m args below meth c s.heap [] 0 0 (MQ below (QcS (some (.int r))) args s 0 0 (fun _ => False)) (F0 m 18 ls []) := by
  unfold bX4_leastCost_18 at hF
  obtain ⟨hx, hb, -, hown, -, hts, -⟩ := id C0
  refine lv_iload hx hb dX4_leastCost_18 (lv_at hl 5 rfl) ?_
  refine lv_iload_n hx hb dX4_leastCost_20 rfl (lv_at hl 3 rfl) ?_
  refine lv_icmp_ge (tgt := 54) hx hb dX4_leastCost_21 (by decide) (fun hc => ?_) (fun hc => ?_)
  · have hF := oi_t hc hF
    refine lv_iload hx hb dX4_leastCost_54 (lv_at hl 4 rfl) ?_
    obtain rfl := (Kr _ (Option.some.inj hF).symm)
    exact rt_SI C0 hr dX4_leastCost_56
  · have hF := oi_f hc hF
    refine lv_iload_n hx hb dX4_leastCost_24 rfl (lv_at hl 2 rfl) ?_
    refine lv_iload hx hb dX4_leastCost_25 (lv_at hl 5 rfl) ?_
    obtain ⟨v27, hcl, hF⟩ := ob hF
    refine go_SI (r_SN (rest := []) (As := [.int x2, .int x5]) C0 cb_X4_78 (tX9_isIn l D cy ad hcl) (pre_S C0) hl dX4_leastCost_27 rfl (Nat.le_of_ble_eq_true rfl) ⟨rfl, rfl⟩ ⟨Nat.le_of_ble_eq_true rfl, Nat.le_of_ble_eq_true rfl⟩ ⟨Nat.le_of_ble_eq_true rfl, Nat.le_of_ble_eq_true rfl⟩ rfl) ?_
    refine lv_if_ne (tgt := 48) hx hb dX4_leastCost_30 (by decide) (fun hc => ?_) (fun hc => ?_)
    · have hF := oi_f hc hF
      exact wX4_leastCost_48 ad A C0 M hr hF (lv_sub hl [0, 1, 2, 3, 4, 5] rfl) Kr Kh0
    · have hF := oi_t hc hF
      refine lv_iload hx hb dX4_leastCost_33 (lv_at hl 4 rfl) ?_
      refine lv_aload_n hx hb dX4_leastCost_35 rfl (lv_at hl 0 rfl) ?_
      refine lv_iload_n hx hb dX4_leastCost_36 rfl (lv_at hl 1 rfl) ?_
      refine lv_iload hx hb dX4_leastCost_37 (lv_at hl 5 rfl) ?_
      refine lv_iload_n hx hb dX4_leastCost_39 rfl (lv_at hl 2 rfl) ?_
      obtain ⟨_, hrec, hF⟩ := ob hF
      obtain ⟨v40, hcl, hF⟩ := ob hF
      refine go_SI (r_V (rest := [.int x4]) (As := [.int x1, .int x5, .int x2]) C0 cb_X4_82 M hrec (tX4_costWith l D cy ad A hcl) (pre_R C0 M) hl dX4_leastCost_40 rfl (Nat.le_of_ble_eq_true rfl) ⟨rfl, rfl⟩ ⟨Nat.le_of_ble_eq_true rfl, Nat.le_of_ble_eq_true rfl⟩ ⟨Nat.le_of_ble_eq_true rfl, Nat.le_of_ble_eq_true rfl⟩ rfl) ?_
      obtain ⟨v43, hcl, hF⟩ := ob hF
      refine go_SI (r_S (rest := []) (As := [.int x4, .int v40]) C0 cb_X4_66 (tJ9_min_7cf53 l D cy ad hcl) (pre_S C0) hl dX4_leastCost_43 rfl (Nat.le_of_ble_eq_true rfl) ⟨rfl, rfl⟩ ⟨Nat.le_of_ble_eq_true rfl, Nat.le_of_ble_eq_true rfl⟩ ⟨Nat.le_of_ble_eq_true rfl, Nat.le_of_ble_eq_true rfl⟩ rfl) ?_
      refine lv_istore (lv' := [(4, .int v43), (0, .ref (ad x0)), (1, .int x1), (2, .int x2), (3, .int x3), (5, .int x5)]) hx hb dX4_leastCost_46 hl (by decide) rfl (fun ls hl => ?_)
      exact wX4_leastCost_48 ad A C0 M hr hF (lv_sub hl [1, 2, 3, 4, 0, 5] rfl) Kr Kh0
set_option maxHeartbeats 4000000 in
set_option maxRecDepth 100000 in
theorem tX4_leastCost (l : Launch) (D : va_G) (cy : Nat → ClassId) (ad : Nat → Nat) (A : Nat → Prop) {S : MS} {a0 : Nat} {a1 : Int32} {a2 : Int32} {a3 : Int32} {r : Int32} (h : fX4_leastCost S a0 a1 a2 a3 = some r) : Met l yX4_leastCost [Cond.code yX4_leastCost cX4_leastCost 6 (some .int)] rmX4_leastCost (PcR D cy ad A S [.ref (ad a0), .int a1, .int a2, .int a3]) (QcS (some (.int r))) 0 0 (fun _ => False) := by
  refine met_R (by decide +kernel) cw_X4_leastCost (Nat.le_of_ble_eq_true rfl) ?_
  intro p e s m args below meth c ls C0 M hr hl
  have hl : lv_has ls 6 [(0, .ref (ad a0)), (1, .int a1), (2, .int a2), (3, .int a3)] := hl
  have key := lim_walk (step := sX4_leastCost S) (fun (q : (Nat × Int32 × Int32 × Int32 × Int32 × Int32)) (r9 : Int32) => ∀ (r : Int32), r9 = r → ((∀ (y0 : Nat) (y1 : Int32) (y2 : Int32) (y3 : Int32) (y4 : Int32) (y5 : Int32), q = (y0, y1, y2, y3, y4, y5) → ∀ (ls1 : Array Slot), lv_has ls1 6 [(0, .ref (ad y0)), (1, .int y1), (2, .int y2), (3, .int y3), (4, .int y4), (5, .int y5)] → W p l e rmX4_leastCost s m args below meth c s.heap [] 0 0 (MQ below (QcS (some (.int r))) args s 0 0 (fun _ => False)) (F0 m 18 ls1 [])))) ?_
  · unfold fX4_leastCost at h
    cases hs0 : bX4_leastCost_0 S a0 a1 a2 a3 with
    | none => rw [hs0] at h; cases h
    | some out =>
      rw [hs0] at h
      refine wX4_leastCost_0 ad A C0 M hr hs0 hl (fun r9 hr9 => ?_) ?_
      · subst hr9; exact Option.some.inj h
      · intro y0 y1 y2 y3 y4 y5 hq; subst hq; exact (key _ _ h _ rfl) _ _ _ _ _ _ rfl
  · intro q r9 out hst hre hin9
    intro r er; subst er
    refine ?_
    · intro y0 y1 y2 y3 y4 y5 hq ls1 hl
      subst hq
      exact wX4_leastCost_18 ad A C0 M hr hst hl hre (fun k0 k1 k2 k3 k4 k5 hk => (hin9 _ hk _ rfl) _ _ _ _ _ _ rfl)
set_option maxHeartbeats 4000000 in
set_option maxRecDepth 100000 in
theorem wX4_pairCost_40 {p : Program} {l : Launch} {e : Env} {s : State} {m : MethodId} {args : Array Value} {below : List Frame} {meth : Method} {c : Code} {D : va_G} {cy : Nat → ClassId} (ad : Nat → Nat) (A : Nat → Prop) {S : MS} {r : Int32} {out : ((Nat × Nat × Int32 × Int32 × Int32) ⊕ Int32)} {ls : Array Slot} (C0 : CX p s m args meth c RX4 cX4_pairCost 6 D cy) (M : MW D cy ad A S s.heap) (hr : meth.sig.returnType = some .int) (hF : bX4_pairCost_40 S = some out) (hl : lv_has ls 6 []) (Kr : ∀ r9, out = .inr r9 → r9 = r) (Kh0 : ∀ (y0 : Nat) (y1 : Nat) (y2 : Int32) (y3 : Int32) (y4 : Int32), out = .inl (y0, y1, y2, y3, y4) → ∀ (ls1 : Array Slot), lv_has ls1 6 [(0, .ref (ad y0)), (1, .ref (ad y1)), (3, .int y2), (4, .int y3), (5, .int y4)] → W p l e rmX4_pairCost s m args below meth c s.heap [] 0 0 (MQ below (QcS (some (.int r))) args s 0 0 (fun _ => False)) (F0 m 50 ls1 [])) : W p l e rmX4_pairCost s m args below meth c s.heap [] 0 0 (MQ below (QcS (some (.int r))) args s 0 0 (fun _ => False)) (F0 m 40 ls []) := by
  unfold bX4_pairCost_40 at hF
  obtain ⟨hx, hb, -, hown, -, hts, -⟩ := id C0
  refine lv_sipush (v := (1000 : Int32)) hx hb dX4_pairCost_40 (by decide) ?_
  obtain rfl := (Kr _ (Option.some.inj hF).symm)
  exact rt_SI C0 hr dX4_pairCost_43
set_option maxHeartbeats 4000000 in
set_option maxRecDepth 100000 in
theorem wX4_pairCost_0 {p : Program} {l : Launch} {e : Env} {s : State} {m : MethodId} {args : Array Value} {below : List Frame} {meth : Method} {c : Code} {D : va_G} {cy : Nat → ClassId} (ad : Nat → Nat) (A : Nat → Prop) {S : MS} {r : Int32} {out : ((Nat × Nat × Int32 × Int32 × Int32) ⊕ Int32)} {ls : Array Slot} {x0 : Nat} {x1 : Nat} (C0 : CX p s m args meth c RX4 cX4_pairCost 6 D cy) (M : MW D cy ad A S s.heap) (hr : meth.sig.returnType = some .int) (hF : bX4_pairCost_0 S x0 x1 = some out) (hl : lv_has ls 6 [(0, .ref (ad x0)), (1, .ref (ad x1))]) (Kr : ∀ r9, out = .inr r9 → r9 = r) (Kh0 : ∀ (y0 : Nat) (y1 : Nat) (y2 : Int32) (y3 : Int32) (y4 : Int32), out = .inl (y0, y1, y2, y3, y4) → ∀ (ls1 : Array Slot), lv_has ls1 6 [(0, .ref (ad y0)), (1, .ref (ad y1)), (3, .int y2), (4, .int y3), (5, .int y4)] → W p l e rmX4_pairCost s m args below meth c s.heap [] 0 0 (MQ below (QcS (some (.int r))) args s 0 0 (fun _ => False)) (F0 m 50 ls1 [])) : W p l e rmX4_pairCost s m args below meth c s.heap [] 0 0 (MQ below (QcS (some (.int r))) args s 0 0 (fun _ => False)) (F0 m 0 ls []) := by
  unfold bX4_pairCost_0 at hF
  obtain ⟨hx, hb, -, hown, -, hts, -⟩ := id C0
  refine lv_aload_n hx hb dX4_pairCost_0 rfl (lv_at hl 0 rfl) ?_
  obtain ⟨v1, hv, hF⟩ := ob hF
  refine k_getI C0 M hv fl_X4_53 dX4_pairCost_1 ?_
  refine lv_aload_n hx hb dX4_pairCost_4 rfl (lv_at hl 1 rfl) ?_
  obtain ⟨v5, hv, hF⟩ := ob hF
  refine k_getI C0 M hv fl_X4_53 dX4_pairCost_5 ?_
  obtain ⟨v8, hcl, hF⟩ := ob hF
  refine go_SI (r_S (rest := []) (As := [.int v1, .int v5]) C0 cb_X4_57 (tJ9_max_7cf53 l D cy ad hcl) (pre_S C0) hl dX4_pairCost_8 rfl (Nat.le_of_ble_eq_true rfl) ⟨rfl, rfl⟩ ⟨Nat.le_of_ble_eq_true rfl, Nat.le_of_ble_eq_true rfl⟩ ⟨Nat.le_of_ble_eq_true rfl, Nat.le_of_ble_eq_true rfl⟩ rfl) ?_
  refine lv_istore_n (lv' := [(2, .int v8), (0, .ref (ad x0)), (1, .ref (ad x1))]) hx hb dX4_pairCost_11 rfl hl (by decide) rfl (fun ls hl => ?_)
  refine lv_aload_n hx hb dX4_pairCost_12 rfl (lv_at hl 1 rfl) ?_
  obtain ⟨v13, hv, hF⟩ := ob hF
  refine k_getI C0 M hv fl_X4_63 dX4_pairCost_13 ?_
  refine lv_aload_n hx hb dX4_pairCost_16 rfl (lv_at hl 2 rfl) ?_
  obtain ⟨v17, hv, hF⟩ := ob hF
  refine k_getI C0 M hv fl_X4_63 dX4_pairCost_17 ?_
  obtain ⟨v20, hcl, hF⟩ := ob hF
  refine go_SI (r_S (rest := []) (As := [.int v13, .int v17]) C0 cb_X4_66 (tJ9_min_7cf53 l D cy ad hcl) (pre_S C0) hl dX4_pairCost_20 rfl (Nat.le_of_ble_eq_true rfl) ⟨rfl, rfl⟩ ⟨Nat.le_of_ble_eq_true rfl, Nat.le_of_ble_eq_true rfl⟩ ⟨Nat.le_of_ble_eq_true rfl, Nat.le_of_ble_eq_true rfl⟩ rfl) ?_
  refine lv_istore_n (lv' := [(3, .int v20), (2, .int v8), (0, .ref (ad x0)), (1, .ref (ad x1))]) hx hb dX4_pairCost_23 rfl hl (by decide) rfl (fun ls hl => ?_)
  refine lv_aload_n hx hb dX4_pairCost_24 rfl (lv_at hl 2 rfl) ?_
  obtain ⟨v25, hv, hF⟩ := ob hF
  refine k_getI C0 M hv fl_X4_69 dX4_pairCost_25 ?_
  refine lv_aload_n hx hb dX4_pairCost_28 rfl (lv_at hl 3 rfl) ?_
  obtain ⟨v29, hv, hF⟩ := ob hF
  refine k_getI C0 M hv fl_X4_69 dX4_pairCost_29 ?_
  refine lv_icmp_ne (tgt := 40) hx hb dX4_pairCost_32 (by decide) (fun hc => ?_) (fun hc => ?_)
  · have hF := oi_f hc hF
    exact wX4_pairCost_40 ad A C0 M hr hF (lv_sub hl [] rfl) Kr Kh0
  · have hF := oi_t hc hF
    refine lv_iload_n hx hb dX4_pairCost_35 rfl (lv_at hl 1 rfl) ?_
    refine lv_iload_n hx hb dX4_pairCost_36 rfl (lv_at hl 0 rfl) ?_
    refine lv_icmp_le (tgt := 44) hx hb dX4_pairCost_37 (by decide) (fun hc => ?_) (fun hc => ?_)
    · have hF := oi_t hc hF
      refine lv_iconst (v := (0 : Int32)) hx hb dX4_pairCost_44 (by decide) ?_
      refine lv_istore (lv' := [(4, .int (0 : Int32)), (3, .int v20), (2, .int v8), (0, .ref (ad x0)), (1, .ref (ad x1))]) hx hb dX4_pairCost_45 hl (by decide) rfl (fun ls hl => ?_)
      refine lv_iload_n hx hb dX4_pairCost_47 rfl (lv_at hl 2 rfl) ?_
      refine lv_istore (lv' := [(5, .int v8), (4, .int (0 : Int32)), (3, .int v20), (2, .int v8), (0, .ref (ad x0)), (1, .ref (ad x1))]) hx hb dX4_pairCost_48 hl (by decide) rfl (fun ls hl => ?_)
      exact Kh0 _ _ _ _ _ (Option.some.inj hF).symm _ (lv_sub hl [4, 5, 2, 1, 0] rfl)
    · have hF := oi_f hc hF
      exact wX4_pairCost_40 ad A C0 M hr hF (lv_sub hl [] rfl) Kr Kh0
set_option maxHeartbeats 4000000 in
set_option maxRecDepth 100000 in
theorem wX4_pairCost_50 {p : Program} {l : Launch} {e : Env} {s : State} {m : MethodId} {args : Array Value} {below : List Frame} {meth : Method} {c : Code} {D : va_G} {cy : Nat → ClassId} (ad : Nat → Nat) (A : Nat → Prop) {S : MS} {r : Int32} {out : ((Nat × Nat × Int32 × Int32 × Int32) ⊕ Int32)} {ls : Array Slot} {x0 : Nat} {x1 : Nat} {x3 : Int32} {x4 : Int32} {x5 : Int32} (C0 : CX p s m args meth c RX4 cX4_pairCost 6 D cy) (M : MW D cy ad A S s.heap) (hr : meth.sig.returnType = some .int) (hF : bX4_pairCost_50 S x0 x1 x3 x4 x5 = some out) (hl : lv_has ls 6 [(0, .ref (ad x0)), (1, .ref (ad x1)), (3, .int x3), (4, .int x4), (5, .int x5)]) (Kr : ∀ r9, out = .inr r9 → r9 = r) (Kh0 : ∀ (y0 : Nat) (y1 : Nat) (y2 : Int32) (y3 : Int32) (y4 : Int32), out = .inl (y0, y1, y2, y3, y4) → ∀ (ls1 : Array Slot), lv_has ls1 6 [(0, .ref (ad y0)), (1, .ref (ad y1)), (3, .int y2), (4, .int y3), (5, .int y4)] → W p l e rmX4_pairCost s m args below meth c s.heap [] 0 0 (MQ below (QcS (some (.int r))) args s 0 0 (fun _ => False)) (F0 m 50 ls1 [])) : W p l e rmX4_pairCost s m args below meth c s.heap [] 0 0 (MQ below (QcS (some (.int r))) args s 0 0 (fun _ => False)) (F0 m 50 ls []) := by
  unfold bX4_pairCost_50 at hF
  obtain ⟨hx, hb, -, hown, -, hts, -⟩ := id C0
  refine lv_iload hx hb dX4_pairCost_50 (lv_at hl 4 rfl) ?_
  refine lv_iload_n hx hb dX4_pairCost_52 rfl (lv_at hl 2 rfl) ?_
  refine lv_icmp_gt (tgt := 85) hx hb dX4_pairCost_53 (by decide) (fun hc => ?_) (fun hc => ?_)
  · have hF := oi_t hc hF
    refine lv_iload hx hb dX4_pairCost_85 (lv_at hl 3 rfl) ?_
    obtain rfl := (Kr _ (Option.some.inj hF).symm)
    exact rt_SI C0 hr dX4_pairCost_87
  · have hF := oi_f hc hF
    refine lv_iload hx hb dX4_pairCost_56 (lv_at hl 3 rfl) ?_
    refine lv_aload_n hx hb dX4_pairCost_58 rfl (lv_at hl 0 rfl) ?_
    obtain ⟨v59, hv, hF⟩ := ob hF
    refine k_getP C0 M hv fl_X4_72 dX4_pairCost_59 ?_
    refine lv_iload hx hb dX4_pairCost_62 (lv_at hl 4 rfl) ?_
    obtain ⟨v64, hv, hF⟩ := ob hF
    refine k_ld C0 M hv dX4_pairCost_64 ?_
    refine lv_aload_n hx hb dX4_pairCost_65 rfl (lv_at hl 1 rfl) ?_
    obtain ⟨v66, hv, hF⟩ := ob hF
    refine k_getP C0 M hv fl_X4_72 dX4_pairCost_66 ?_
    refine lv_iload hx hb dX4_pairCost_69 (lv_at hl 4 rfl) ?_
    obtain ⟨v71, hv, hF⟩ := ob hF
    refine k_ld C0 M hv dX4_pairCost_71 ?_
    refine lv_isub hx hb dX4_pairCost_72 ?_
    obtain ⟨v73, hcl, hF⟩ := ob hF
    refine go_SI (r_S (rest := [.int x4]) (As := [.int (v64 - v71)]) C0 cb_X4_75 (tJ9_abs_0f7a4 l D cy ad hcl) (pre_S C0) hl dX4_pairCost_73 rfl (Nat.le_of_ble_eq_true rfl) ⟨rfl, rfl⟩ ⟨Nat.le_of_ble_eq_true rfl, Nat.le_of_ble_eq_true rfl⟩ ⟨Nat.le_of_ble_eq_true rfl, Nat.le_of_ble_eq_true rfl⟩ rfl) ?_
    refine lv_iadd hx hb dX4_pairCost_76 ?_
    obtain ⟨v77, hv, hF⟩ := ob hF
    have hv := vtI hv
    refine vtopi hv ?_
    refine lv_istore (lv' := [(4, .int v77), (0, .ref (ad x0)), (1, .ref (ad x1)), (3, .int x3), (5, .int x5)]) hx hb dX4_pairCost_77 hl (by decide) rfl (fun ls hl => ?_)
    obtain ⟨v79, hv, hF⟩ := ob hF
    refine lv_iinc (v := v79) (lv' := [(5, .int v79), (4, .int v77), (0, .ref (ad x0)), (1, .ref (ad x1)), (3, .int x3)]) hx hb dX4_pairCost_79 hl (k := 4) rfl (by rw [← vtI hv]; rfl) (by decide) rfl (fun ls hl => ?_)
    refine lv_goto (tgt := 50) hx hb dX4_pairCost_82 (by decide) ?_
    exact Kh0 _ _ _ _ _ (Option.some.inj hF).symm _ (lv_sub hl [2, 3, 4, 1, 0] rfl)
set_option maxHeartbeats 4000000 in
set_option maxRecDepth 100000 in
theorem tX4_pairCost (l : Launch) (D : va_G) (cy : Nat → ClassId) (ad : Nat → Nat) (A : Nat → Prop) {S : MS} {a0 : Nat} {a1 : Nat} {r : Int32} (h : fX4_pairCost S a0 a1 = some r) : Met l yX4_pairCost [Cond.code yX4_pairCost cX4_pairCost 6 (some .int)] rmX4_pairCost (PcR D cy ad A S [.ref (ad a0), .ref (ad a1)]) (QcS (some (.int r))) 0 0 (fun _ => False) := by
  refine met_R (by decide +kernel) cw_X4_pairCost (Nat.le_of_ble_eq_true rfl) ?_
  intro p e s m args below meth c ls C0 M hr hl
  have hl : lv_has ls 6 [(0, .ref (ad a0)), (1, .ref (ad a1))] := hl
  have key := lim_walk (step := sX4_pairCost S) (fun (q : (Nat × Nat × Int32 × Int32 × Int32)) (r9 : Int32) => ∀ (r : Int32), r9 = r → ((∀ (y0 : Nat) (y1 : Nat) (y2 : Int32) (y3 : Int32) (y4 : Int32), q = (y0, y1, y2, y3, y4) → ∀ (ls1 : Array Slot), lv_has ls1 6 [(0, .ref (ad y0)), (1, .ref (ad y1)), (3, .int y2), (4, .int y3), (5, .int y4)] → W p l e rmX4_pairCost s m args below meth c s.heap [] 0 0 (MQ below (QcS (some (.int r))) args s 0 0 (fun _ => False)) (F0 m 50 ls1 [])))) ?_
  · unfold fX4_pairCost at h
    cases hs0 : bX4_pairCost_0 S a0 a1 with
    | none => rw [hs0] at h; cases h
    | some out =>
      rw [hs0] at h
      refine wX4_pairCost_0 ad A C0 M hr hs0 hl (fun r9 hr9 => ?_) ?_
      · subst hr9; exact Option.some.inj h
      · intro y0 y1 y2 y3 y4 hq; subst hq; exact (key _ _ h _ rfl) _ _ _ _ _ rfl
  · intro q r9 out hst hre hin9
    intro r er; subst er
    refine ?_
    · intro y0 y1 y2 y3 y4 hq ls1 hl
      subst hq
      exact wX4_pairCost_50 ad A C0 M hr hst hl hre (fun k0 k1 k2 k3 k4 hk => (hin9 _ hk _ rfl) _ _ _ _ _ rfl)
set_option maxHeartbeats 4000000 in
set_option maxRecDepth 100000 in
theorem wX4_firstPartner_0 {p : Program} {l : Launch} {e : Env} {s : State} {m : MethodId} {args : Array Value} {below : List Frame} {meth : Method} {c : Code} {D : va_G} {cy : Nat → ClassId} (ad : Nat → Nat) (A : Nat → Prop) {S : MS} {r : Int32} {out : ((Nat × Int32 × Int32 × Int32 × Int32) ⊕ Int32)} {ls : Array Slot} {x0 : Nat} {x1 : Int32} {x2 : Int32} {x3 : Int32} (C0 : CX p s m args meth c RX4 cX4_firstPartner 5 D cy) (M : MW D cy ad A S s.heap) (hr : meth.sig.returnType = some .int) (hF : bX4_firstPartner_0 S x0 x1 x2 x3 = some out) (hl : lv_has ls 5 [(0, .ref (ad x0)), (1, .int x1), (2, .int x2), (3, .int x3)]) (Kr : ∀ r9, out = .inr r9 → r9 = r) (Kh0 : ∀ (y0 : Nat) (y1 : Int32) (y2 : Int32) (y3 : Int32) (y4 : Int32), out = .inl (y0, y1, y2, y3, y4) → ∀ (ls1 : Array Slot), lv_has ls1 5 [(0, .ref (ad y0)), (1, .int y1), (2, .int y2), (3, .int y3), (4, .int y4)] → W p l e rmX4_firstPartner s m args below meth c s.heap [] 0 0 (MQ below (QcS (some (.int r))) args s 0 0 (fun _ => False)) (F0 m 3 ls1 [])) : W p l e rmX4_firstPartner s m args below meth c s.heap [] 0 0 (MQ below (QcS (some (.int r))) args s 0 0 (fun _ => False)) (F0 m 0 ls []) := by
  unfold bX4_firstPartner_0 at hF
  obtain ⟨hx, hb, -, hown, -, hts, -⟩ := id C0
  refine lv_iconst (v := (0 : Int32)) hx hb dX4_firstPartner_0 (by decide) ?_
  refine lv_istore (lv' := [(4, .int (0 : Int32)), (0, .ref (ad x0)), (1, .int x1), (2, .int x2), (3, .int x3)]) hx hb dX4_firstPartner_1 hl (by decide) rfl (fun ls hl => ?_)
  exact Kh0 _ _ _ _ _ (Option.some.inj hF).symm _ (lv_sub hl [1, 2, 3, 4, 0] rfl)
set_option maxHeartbeats 4000000 in
set_option maxRecDepth 100000 in
theorem wX4_firstPartner_40 {p : Program} {l : Launch} {e : Env} {s : State} {m : MethodId} {args : Array Value} {below : List Frame} {meth : Method} {c : Code} {D : va_G} {cy : Nat → ClassId} (ad : Nat → Nat) (A : Nat → Prop) {S : MS} {r : Int32} {out : ((Nat × Int32 × Int32 × Int32 × Int32) ⊕ Int32)} {ls : Array Slot} {x0 : Nat} {x1 : Int32} {x2 : Int32} {x3 : Int32} {x4 : Int32} (C0 : CX p s m args meth c RX4 cX4_firstPartner 5 D cy) (M : MW D cy ad A S s.heap) (hr : meth.sig.returnType = some .int) (hF : bX4_firstPartner_40 S x0 x1 x2 x3 x4 = some out) (hl : lv_has ls 5 [(0, .ref (ad x0)), (1, .int x1), (2, .int x2), (3, .int x3), (4, .int x4)]) (Kr : ∀ r9, out = .inr r9 → r9 = r) (Kh0 : ∀ (y0 : Nat) (y1 : Int32) (y2 : Int32) (y3 : Int32) (y4 : Int32), out = .inl (y0, y1, y2, y3, y4) → ∀ (ls1 : Array Slot), lv_has ls1 5 [(0, .ref (ad y0)), (1, .int y1), (2, .int y2), (3, .int y3), (4, .int y4)] → W p l e rmX4_firstPartner s m args below meth c s.heap [] 0 0 (MQ below (QcS (some (.int r))) args s 0 0 (fun _ => False)) (F0 m 3 ls1 [])) : W p l e rmX4_firstPartner s m args below meth c s.heap [] 0 0 (MQ below (QcS (some (.int r))) args s 0 0 (fun _ => False)) (F0 m 40 ls []) := by
  unfold bX4_firstPartner_40 at hF
  obtain ⟨hx, hb, -, hown, -, hts, -⟩ := id C0
  obtain ⟨v40, hv, hF⟩ := ob hF
  refine lv_iinc (v := v40) (lv' := [(4, .int v40), (0, .ref (ad x0)), (1, .int x1), (2, .int x2), (3, .int x3)]) hx hb dX4_firstPartner_40 hl (k := 4) rfl (by rw [← vtI hv]; rfl) (by decide) rfl (fun ls hl => ?_)
  refine lv_goto (tgt := 3) hx hb dX4_firstPartner_43 (by decide) ?_
  exact Kh0 _ _ _ _ _ (Option.some.inj hF).symm _ (lv_sub hl [1, 2, 3, 4, 0] rfl)
set_option maxHeartbeats 4000000 in
set_option maxRecDepth 100000 in
theorem wX4_firstPartner_3 {p : Program} {l : Launch} {e : Env} {s : State} {m : MethodId} {args : Array Value} {below : List Frame} {meth : Method} {c : Code} {D : va_G} {cy : Nat → ClassId} (ad : Nat → Nat) (A : Nat → Prop) {S : MS} {r : Int32} {out : ((Nat × Int32 × Int32 × Int32 × Int32) ⊕ Int32)} {ls : Array Slot} {x0 : Nat} {x1 : Int32} {x2 : Int32} {x3 : Int32} {x4 : Int32} (C0 : CX p s m args meth c RX4 cX4_firstPartner 5 D cy) (M : MW D cy ad A S s.heap) (hr : meth.sig.returnType = some .int) (hF : bX4_firstPartner_3 S x0 x1 x2 x3 x4 = some out) (hl : lv_has ls 5 [(0, .ref (ad x0)), (1, .int x1), (2, .int x2), (3, .int x3), (4, .int x4)]) (Kr : ∀ r9, out = .inr r9 → r9 = r) (Kh0 : ∀ (y0 : Nat) (y1 : Int32) (y2 : Int32) (y3 : Int32) (y4 : Int32), out = .inl (y0, y1, y2, y3, y4) → ∀ (ls1 : Array Slot), lv_has ls1 5 [(0, .ref (ad y0)), (1, .int y1), (2, .int y2), (3, .int y3), (4, .int y4)] → W p l e rmX4_firstPartner s m args below meth c s.heap [] 0 0 (MQ below (QcS (some (.int r))) args s 0 0 (fun _ => False)) (F0 m 3 ls1 [])) : W p l e rmX4_firstPartner s m args below meth c s.heap [] 0 0 (MQ below (QcS (some (.int r))) args s 0 0 (fun _ => False)) (F0 m 3 ls []) := by
  unfold bX4_firstPartner_3 at hF
  obtain ⟨hx, hb, -, hown, -, hts, -⟩ := id C0
  refine lv_iload hx hb dX4_firstPartner_3 (lv_at hl 4 rfl) ?_
  refine lv_iload_n hx hb dX4_firstPartner_5 rfl (lv_at hl 3 rfl) ?_
  refine lv_icmp_ge (tgt := 46) hx hb dX4_firstPartner_6 (by decide) (fun hc => ?_) (fun hc => ?_)
  · have hF := oi_t hc hF
    refine lv_bipush (v := (-9 : Int32)) hx hb dX4_firstPartner_46 (by decide) ?_
    obtain rfl := (Kr _ (Option.some.inj hF).symm)
    exact rt_SI C0 hr dX4_firstPartner_48
  · have hF := oi_f hc hF
    refine lv_iload_n hx hb dX4_firstPartner_9 rfl (lv_at hl 2 rfl) ?_
    refine lv_iload hx hb dX4_firstPartner_10 (lv_at hl 4 rfl) ?_
    obtain ⟨v12, hcl, hF⟩ := ob hF
    refine go_SI (r_SN (rest := []) (As := [.int x2, .int x4]) C0 cb_X4_78 (tX9_isIn l D cy ad hcl) (pre_S C0) hl dX4_firstPartner_12 rfl (Nat.le_of_ble_eq_true rfl) ⟨rfl, rfl⟩ ⟨Nat.le_of_ble_eq_true rfl, Nat.le_of_ble_eq_true rfl⟩ ⟨Nat.le_of_ble_eq_true rfl, Nat.le_of_ble_eq_true rfl⟩ rfl) ?_
    refine lv_if_ne (tgt := 40) hx hb dX4_firstPartner_15 (by decide) (fun hc => ?_) (fun hc => ?_)
    · have hF := oi_f hc hF
      exact wX4_firstPartner_40 ad A C0 M hr hF (lv_sub hl [0, 1, 2, 3, 4] rfl) Kr Kh0
    · have hF := oi_t hc hF
      refine lv_aload_n hx hb dX4_firstPartner_18 rfl (lv_at hl 0 rfl) ?_
      refine lv_iload_n hx hb dX4_firstPartner_19 rfl (lv_at hl 1 rfl) ?_
      refine lv_iload hx hb dX4_firstPartner_20 (lv_at hl 4 rfl) ?_
      refine lv_iload_n hx hb dX4_firstPartner_22 rfl (lv_at hl 2 rfl) ?_
      obtain ⟨_, hrec, hF⟩ := ob hF
      obtain ⟨v23, hcl, hF⟩ := ob hF
      refine go_SI (r_V (rest := []) (As := [.int x1, .int x4, .int x2]) C0 cb_X4_82 M hrec (tX4_costWith l D cy ad A hcl) (pre_R C0 M) hl dX4_firstPartner_23 rfl (Nat.le_of_ble_eq_true rfl) ⟨rfl, rfl⟩ ⟨Nat.le_of_ble_eq_true rfl, Nat.le_of_ble_eq_true rfl⟩ ⟨Nat.le_of_ble_eq_true rfl, Nat.le_of_ble_eq_true rfl⟩ rfl) ?_
      refine lv_aload_n hx hb dX4_firstPartner_26 rfl (lv_at hl 0 rfl) ?_
      obtain ⟨v27, hv, hF⟩ := ob hF
      refine k_getP C0 M hv fl_X4_16 dX4_firstPartner_27 ?_
      refine lv_iload_n hx hb dX4_firstPartner_30 rfl (lv_at hl 1 rfl) ?_
      obtain ⟨v31, hv, hF⟩ := ob hF
      refine k_ldP (ty := (.array .int)) 4 C0 M (by decide) rfl rfl hv dX4_firstPartner_31 ?_
      refine lv_iload_n hx hb dX4_firstPartner_32 rfl (lv_at hl 2 rfl) ?_
      obtain ⟨v33, hv, hF⟩ := ob hF
      refine k_ld C0 M hv dX4_firstPartner_33 ?_
      refine lv_icmp_ne (tgt := 40) hx hb dX4_firstPartner_34 (by decide) (fun hc => ?_) (fun hc => ?_)
      · have hF := oi_f hc hF
        exact wX4_firstPartner_40 ad A C0 M hr hF (lv_sub hl [0, 1, 2, 3, 4] rfl) Kr Kh0
      · have hF := oi_t hc hF
        refine lv_iload hx hb dX4_firstPartner_37 (lv_at hl 4 rfl) ?_
        obtain rfl := (Kr _ (Option.some.inj hF).symm)
        exact rt_SI C0 hr dX4_firstPartner_39
set_option maxHeartbeats 4000000 in
set_option maxRecDepth 100000 in
theorem tX4_firstPartner (l : Launch) (D : va_G) (cy : Nat → ClassId) (ad : Nat → Nat) (A : Nat → Prop) {S : MS} {a0 : Nat} {a1 : Int32} {a2 : Int32} {a3 : Int32} {r : Int32} (h : fX4_firstPartner S a0 a1 a2 a3 = some r) : Met l yX4_firstPartner [Cond.code yX4_firstPartner cX4_firstPartner 5 (some .int)] rmX4_firstPartner (PcR D cy ad A S [.ref (ad a0), .int a1, .int a2, .int a3]) (QcS (some (.int r))) 0 0 (fun _ => False) := by
  refine met_R (by decide +kernel) cw_X4_firstPartner (Nat.le_of_ble_eq_true rfl) ?_
  intro p e s m args below meth c ls C0 M hr hl
  have hl : lv_has ls 5 [(0, .ref (ad a0)), (1, .int a1), (2, .int a2), (3, .int a3)] := hl
  have key := lim_walk (step := sX4_firstPartner S) (fun (q : (Nat × Int32 × Int32 × Int32 × Int32)) (r9 : Int32) => ∀ (r : Int32), r9 = r → ((∀ (y0 : Nat) (y1 : Int32) (y2 : Int32) (y3 : Int32) (y4 : Int32), q = (y0, y1, y2, y3, y4) → ∀ (ls1 : Array Slot), lv_has ls1 5 [(0, .ref (ad y0)), (1, .int y1), (2, .int y2), (3, .int y3), (4, .int y4)] → W p l e rmX4_firstPartner s m args below meth c s.heap [] 0 0 (MQ below (QcS (some (.int r))) args s 0 0 (fun _ => False)) (F0 m 3 ls1 [])))) ?_
  · unfold fX4_firstPartner at h
    cases hs0 : bX4_firstPartner_0 S a0 a1 a2 a3 with
    | none => rw [hs0] at h; cases h
    | some out =>
      rw [hs0] at h
      refine wX4_firstPartner_0 ad A C0 M hr hs0 hl (fun r9 hr9 => ?_) ?_
      · subst hr9; exact Option.some.inj h
      · intro y0 y1 y2 y3 y4 hq; subst hq; exact (key _ _ h _ rfl) _ _ _ _ _ rfl
  · intro q r9 out hst hre hin9
    intro r er; subst er
    refine ?_
    · intro y0 y1 y2 y3 y4 hq ls1 hl
      subst hq
      exact wX4_firstPartner_3 ad A C0 M hr hst hl hre (fun k0 k1 k2 k3 k4 hk => (hin9 _ hk _ rfl) _ _ _ _ _ rfl)
set_option maxHeartbeats 4000000 in
set_option maxRecDepth 100000 in
theorem wX4_setPartners_0 {p : Program} {l : Launch} {e : Env} {s : State} {m : MethodId} {args : Array Value} {below : List Frame} {meth : Method} {c : Code} {D : va_G} {cy : Nat → ClassId} (ad : Nat → Nat) (A : Nat → Prop) {S : MS} {S' : MS} {H : Heap} {locs : List Loc} {n0 : Nat} {out : ((Nat × Int32 × Int32 × Int32 × Int32 × MS) ⊕ MS)} {ls : Array Slot} {x0 : Nat} {x1 : Int32} {x2 : Int32} (C0 : CX p s m args meth c RX4 cX4_setPartners 5 D cy) (M : ST D cy ad A s.heap (ZN n0 s.heap.size) S H locs) (hr : meth.sig.returnType = none) (hF : bX4_setPartners_0 S x0 x1 x2 = some out) (hl : lv_has ls 5 [(0, .ref (ad x0)), (1, .int x1), (2, .int x2)]) (Kr : ∀ r9, out = .inr r9 → r9 = S') (Kh0 : ∀ (y0 : Nat) (y1 : Int32) (y2 : Int32) (y3 : Int32) (y4 : Int32) (S2 : MS), out = .inl (y0, y1, y2, y3, y4, S2) → ∀ (H1 : Heap) (locs1 : List Loc) (ls1 : Array Slot), ST D cy ad A s.heap (ZN n0 s.heap.size) S2 H1 locs1 → lv_has ls1 5 [(0, .ref (ad y0)), (1, .int y1), (2, .int y2), (3, .int y3), (4, .int y4)] → W p l e rmX4_setPartners s m args below meth c H1 locs1 0 0 (MQ below (QcM D cy ad A n0 S' (none)) args s 0 0 A) (F0 m 5 ls1 [])) : W p l e rmX4_setPartners s m args below meth c H locs 0 0 (MQ below (QcM D cy ad A n0 S' (none)) args s 0 0 A) (F0 m 0 ls []) := by
  unfold bX4_setPartners_0 at hF
  obtain ⟨hx, hb, -, hown, -, hts, -⟩ := id C0
  refine lv_iconst (v := (0 : Int32)) hx hb dX4_setPartners_0 (by decide) ?_
  refine lv_istore_n (lv' := [(3, .int (0 : Int32)), (0, .ref (ad x0)), (1, .int x1), (2, .int x2)]) hx hb dX4_setPartners_1 rfl hl (by decide) rfl (fun ls hl => ?_)
  refine lv_iconst (v := (0 : Int32)) hx hb dX4_setPartners_2 (by decide) ?_
  refine lv_istore (lv' := [(4, .int (0 : Int32)), (3, .int (0 : Int32)), (0, .ref (ad x0)), (1, .int x1), (2, .int x2)]) hx hb dX4_setPartners_3 hl (by decide) rfl (fun ls hl => ?_)
  exact Kh0 _ _ _ _ _ _ (Option.some.inj hF).symm _ _ _ M (lv_sub hl [2, 3, 4, 1, 0] rfl)
set_option maxHeartbeats 4000000 in
set_option maxRecDepth 100000 in
theorem wX4_setPartners_50 {p : Program} {l : Launch} {e : Env} {s : State} {m : MethodId} {args : Array Value} {below : List Frame} {meth : Method} {c : Code} {D : va_G} {cy : Nat → ClassId} (ad : Nat → Nat) (A : Nat → Prop) {S : MS} {S' : MS} {H : Heap} {locs : List Loc} {n0 : Nat} {out : ((Nat × Int32 × Int32 × Int32 × Int32 × MS) ⊕ MS)} {ls : Array Slot} {x0 : Nat} {x1 : Int32} {x2 : Int32} {x3 : Int32} {x4 : Int32} (C0 : CX p s m args meth c RX4 cX4_setPartners 5 D cy) (M : ST D cy ad A s.heap (ZN n0 s.heap.size) S H locs) (hr : meth.sig.returnType = none) (hF : bX4_setPartners_50 S x0 x1 x2 x3 x4 = some out) (hl : lv_has ls 5 [(0, .ref (ad x0)), (1, .int x1), (2, .int x2), (3, .int x3), (4, .int x4)]) (Kr : ∀ r9, out = .inr r9 → r9 = S') (Kh0 : ∀ (y0 : Nat) (y1 : Int32) (y2 : Int32) (y3 : Int32) (y4 : Int32) (S2 : MS), out = .inl (y0, y1, y2, y3, y4, S2) → ∀ (H1 : Heap) (locs1 : List Loc) (ls1 : Array Slot), ST D cy ad A s.heap (ZN n0 s.heap.size) S2 H1 locs1 → lv_has ls1 5 [(0, .ref (ad y0)), (1, .int y1), (2, .int y2), (3, .int y3), (4, .int y4)] → W p l e rmX4_setPartners s m args below meth c H1 locs1 0 0 (MQ below (QcM D cy ad A n0 S' (none)) args s 0 0 A) (F0 m 5 ls1 [])) : W p l e rmX4_setPartners s m args below meth c H locs 0 0 (MQ below (QcM D cy ad A n0 S' (none)) args s 0 0 A) (F0 m 50 ls []) := by
  unfold bX4_setPartners_50 at hF
  obtain ⟨hx, hb, -, hown, -, hts, -⟩ := id C0
  obtain ⟨v50, hv, hF⟩ := ob hF
  refine lv_iinc (v := v50) (lv' := [(4, .int v50), (0, .ref (ad x0)), (1, .int x1), (2, .int x2), (3, .int x3)]) hx hb dX4_setPartners_50 hl (k := 4) rfl (by rw [← vtI hv]; rfl) (by decide) rfl (fun ls hl => ?_)
  refine lv_goto (tgt := 5) hx hb dX4_setPartners_53 (by decide) ?_
  exact Kh0 _ _ _ _ _ _ (Option.some.inj hF).symm _ _ _ M (lv_sub hl [1, 2, 3, 4, 0] rfl)
set_option maxHeartbeats 4000000 in
set_option maxRecDepth 100000 in
theorem wX4_setPartners_5 {p : Program} {l : Launch} {e : Env} {s : State} {m : MethodId} {args : Array Value} {below : List Frame} {meth : Method} {c : Code} {D : va_G} {cy : Nat → ClassId} (ad : Nat → Nat) (A : Nat → Prop) {S : MS} {S' : MS} {H : Heap} {locs : List Loc} {n0 : Nat} {out : ((Nat × Int32 × Int32 × Int32 × Int32 × MS) ⊕ MS)} {ls : Array Slot} {x0 : Nat} {x1 : Int32} {x2 : Int32} {x3 : Int32} {x4 : Int32} (C0 : CX p s m args meth c RX4 cX4_setPartners 5 D cy) (M : ST D cy ad A s.heap (ZN n0 s.heap.size) S H locs) (hr : meth.sig.returnType = none) (hF : bX4_setPartners_5 S x0 x1 x2 x3 x4 = some out) (hl : lv_has ls 5 [(0, .ref (ad x0)), (1, .int x1), (2, .int x2), (3, .int x3), (4, .int x4)]) (Kr : ∀ r9, out = .inr r9 → r9 = S') (Kh0 : ∀ (y0 : Nat) (y1 : Int32) (y2 : Int32) (y3 : Int32) (y4 : Int32) (S2 : MS), out = .inl (y0, y1, y2, y3, y4, S2) → ∀ (H1 : Heap) (locs1 : List Loc) (ls1 : Array Slot), ST D cy ad A s.heap (ZN n0 s.heap.size) S2 H1 locs1 → lv_has ls1 5 [(0, .ref (ad y0)), (1, .int y1), (2, .int y2), (3, .int y3), (4, .int y4)] → W p l e rmX4_setPartners s m args below meth c H1 locs1 0 0 (MQ below (QcM D cy ad A n0 S' (none)) args s 0 0 A) (F0 m 5 ls1 [])) : W p l e rmX4_setPartners s m args below meth c H locs 0 0 (MQ below (QcM D cy ad A n0 S' (none)) args s 0 0 A) (F0 m 5 ls []) := by
  unfold bX4_setPartners_5 at hF
  obtain ⟨hx, hb, -, hown, -, hts, -⟩ := id C0
  refine lv_iload hx hb dX4_setPartners_5 (lv_at hl 4 rfl) ?_
  refine lv_iload_n hx hb dX4_setPartners_7 rfl (lv_at hl 1 rfl) ?_
  refine lv_icmp_ge (tgt := 56) hx hb dX4_setPartners_8 (by decide) (fun hc => ?_) (fun hc => ?_)
  · have hF := oi_t hc hF
    obtain rfl := (Kr _ (Option.some.inj hF).symm)
    exact rt_MV C0 M hr dX4_setPartners_56
  · have hF := oi_f hc hF
    refine lv_aload_n hx hb dX4_setPartners_11 rfl (lv_at hl 0 rfl) ?_
    obtain ⟨v12, hv, hF⟩ := ob hF
    refine k_getP C0 M.1 hv fl_X4_19 dX4_setPartners_12 ?_
    refine lv_iload hx hb dX4_setPartners_15 (lv_at hl 4 rfl) ?_
    refine lv_aload_n hx hb dX4_setPartners_17 rfl (lv_at hl 0 rfl) ?_
    refine lv_iload hx hb dX4_setPartners_18 (lv_at hl 4 rfl) ?_
    refine lv_iload_n hx hb dX4_setPartners_20 rfl (lv_at hl 3 rfl) ?_
    refine lv_iload_n hx hb dX4_setPartners_21 rfl (lv_at hl 2 rfl) ?_
    obtain ⟨_, hrec, hF⟩ := ob hF
    obtain ⟨v22, hcl, hF⟩ := ob hF
    refine go_SI (r_V (rest := [.int x4, .ref (ad v12)]) (As := [.int x4, .int x3, .int x2]) C0 cb_X4_85 M.1 hrec (tX4_firstPartner l D cy ad A hcl) (pre_R C0 M.1) hl dX4_setPartners_22 rfl (Nat.le_of_ble_eq_true rfl) ⟨rfl, rfl⟩ ⟨Nat.le_of_ble_eq_true rfl, Nat.le_of_ble_eq_true rfl⟩ ⟨Nat.le_of_ble_eq_true rfl, Nat.le_of_ble_eq_true rfl⟩ rfl) ?_
    obtain ⟨S25, hv, hF⟩ := ob hF
    refine k_st C0 M hv dX4_setPartners_25 (fun H locs M => ?_)
    refine lv_aload_n hx hb dX4_setPartners_26 rfl (lv_at hl 0 rfl) ?_
    obtain ⟨v27, hv, hF⟩ := ob hF
    refine k_getP C0 M.1 hv fl_X4_19 dX4_setPartners_27 ?_
    refine lv_iload hx hb dX4_setPartners_30 (lv_at hl 4 rfl) ?_
    obtain ⟨v32, hv, hF⟩ := ob hF
    refine k_ld C0 M.1 hv dX4_setPartners_32 ?_
    refine lv_bipush (v := (-9 : Int32)) hx hb dX4_setPartners_33 (by decide) ?_
    refine lv_icmp_eq (tgt := 50) hx hb dX4_setPartners_35 (by decide) (fun hc => ?_) (fun hc => ?_)
    · have hF := oi_t hc hF
      exact wX4_setPartners_50 ad A C0 M hr hF (lv_sub hl [0, 1, 2, 3, 4] rfl) Kr Kh0
    · have hF := oi_f hc hF
      refine lv_iload_n hx hb dX4_setPartners_38 rfl (lv_at hl 3 rfl) ?_
      refine lv_iconst (v := (1 : Int32)) hx hb dX4_setPartners_39 (by decide) ?_
      refine lv_aload_n hx hb dX4_setPartners_40 rfl (lv_at hl 0 rfl) ?_
      obtain ⟨v41, hv, hF⟩ := ob hF
      refine k_getP C0 M.1 hv fl_X4_19 dX4_setPartners_41 ?_
      refine lv_iload hx hb dX4_setPartners_44 (lv_at hl 4 rfl) ?_
      obtain ⟨v46, hv, hF⟩ := ob hF
      refine k_ld C0 M.1 hv dX4_setPartners_46 ?_
      refine lv_ishl hx hb dX4_setPartners_47 ?_
      refine lv_ior hx hb dX4_setPartners_48 ?_
      obtain ⟨v49, hv, hF⟩ := ob hF
      have hv := vtI hv
      refine vtopi hv ?_
      refine lv_istore_n (lv' := [(3, .int v49), (0, .ref (ad x0)), (1, .int x1), (2, .int x2), (4, .int x4)]) hx hb dX4_setPartners_49 rfl hl (by decide) rfl (fun ls hl => ?_)
      exact wX4_setPartners_50 ad A C0 M hr hF (lv_sub hl [1, 2, 3, 0, 4] rfl) Kr Kh0
set_option maxHeartbeats 4000000 in
set_option maxRecDepth 100000 in
theorem tX4_setPartners (l : Launch) (D : va_G) (cy : Nat → ClassId) (ad : Nat → Nat) (A : Nat → Prop) {S S' : MS} {a0 : Nat} {a1 : Int32} {a2 : Int32} (h : fX4_setPartners S a0 a1 a2 = some S') : Met l yX4_setPartners [Cond.code yX4_setPartners cX4_setPartners 5 (none)] rmX4_setPartners (PcR D cy ad A S [.ref (ad a0), .int a1, .int a2]) (QcM D cy ad A (m_n S) S' (none)) 0 0 A := by
  refine met_M (by decide +kernel) cw_X4_setPartners (Nat.le_of_ble_eq_true rfl) ?_
  intro p e s m args below meth c ls C0 M hr hin hl
  have hl : lv_has ls 5 [(0, .ref (ad a0)), (1, .int a1), (2, .int a2)] := hl
  have key := lim_walk (step := sX4_setPartners) (fun (q : (Nat × Int32 × Int32 × Int32 × Int32 × MS)) (r9 : MS) => ∀ (S' : MS), r9 = S' → ((∀ (y0 : Nat) (y1 : Int32) (y2 : Int32) (y3 : Int32) (y4 : Int32) (S2 : MS), q = (y0, y1, y2, y3, y4, S2) → ∀ (H1 : Heap) (locs1 : List Loc) (ls1 : Array Slot), ST D cy ad A s.heap (ZN (m_n S) s.heap.size) S2 H1 locs1 → lv_has ls1 5 [(0, .ref (ad y0)), (1, .int y1), (2, .int y2), (3, .int y3), (4, .int y4)] → W p l e rmX4_setPartners s m args below meth c H1 locs1 0 0 (MQ below (QcM D cy ad A (m_n S) S' (none)) args s 0 0 A) (F0 m 5 ls1 [])))) ?_
  · unfold fX4_setPartners at h
    cases hs0 : bX4_setPartners_0 S a0 a1 a2 with
    | none => rw [hs0] at h; cases h
    | some out =>
      rw [hs0] at h
      refine wX4_setPartners_0 ad A C0 M hr hs0 hl (fun r9 hr9 => ?_) ?_
      · subst hr9; exact Option.some.inj h
      · intro y0 y1 y2 y3 y4 y5 hq; subst hq; exact (key _ _ h _ rfl) _ _ _ _ _ _ rfl
  · intro q r9 out hst hre hin9
    intro S' er; subst er
    refine ?_
    · intro y0 y1 y2 y3 y4 y5 hq H1 locs1 ls1 M hl
      subst hq
      exact wX4_setPartners_5 ad A C0 M hr hst hl hre (fun k0 k1 k2 k3 k4 k5 hk => (hin9 _ hk _ rfl) _ _ _ _ _ _ rfl)
set_option maxHeartbeats 4000000 in
set_option maxRecDepth 100000 in
theorem wX4_match_0 {p : Program} {l : Launch} {e : Env} {s : State} {m : MethodId} {args : Array Value} {below : List Frame} {meth : Method} {c : Code} {D : va_G} {cy : Nat → ClassId} (ad : Nat → Nat) (A : Nat → Prop) {S : MS} {S' : MS} {H : Heap} {locs : List Loc} {n0 : Nat} {r : Int32} {out : (((Nat × Nat × Nat × Int32 × Int32 × Int32 × MS) ⊕ ((Nat × Nat × Nat × Int32 × Int32 × Int32 × Int32 × MS) ⊕ ((Nat × Int32 × Int32 × Int32 × MS) ⊕ ((Nat × Int32 × Int32 × Int32 × MS) ⊕ (Nat × Int32 × Int32 × Int32 × Int32 × MS))))) ⊕ (Int32 × MS))} {ls : Array Slot} {x0 : Nat} {x1 : Nat} {x2 : Nat} (C0 : CX p s m args meth c RX4 cX4_match 7 D cy) (M : ST D cy ad A s.heap (ZN n0 s.heap.size) S H locs) (hr : meth.sig.returnType = some .int) (hF : bX4_match_0 S x0 x1 x2 = some out) (hl : lv_has ls 7 [(0, .ref (ad x0)), (1, .ref (ad x1)), (2, .ref (ad x2))]) (Kr : ∀ r9, out = .inr r9 → r9 = (r, S')) (Kh0 : ∀ (y0 : Nat) (y1 : Nat) (y2 : Nat) (y3 : Int32) (y4 : Int32) (y5 : Int32) (S2 : MS), out = .inl (.inl (y0, y1, y2, y3, y4, y5, S2)) → ∀ (H1 : Heap) (locs1 : List Loc) (ls1 : Array Slot), ST D cy ad A s.heap (ZN n0 s.heap.size) S2 H1 locs1 → lv_has ls1 7 [(0, .ref (ad y0)), (1, .ref (ad y1)), (2, .ref (ad y2)), (3, .int y3), (4, .int y4), (5, .int y5)] → W p l e rmX4_match s m args below meth c H1 locs1 0 0 (MQ below (QcM D cy ad A n0 S' (some (.int r))) args s 0 0 A) (F0 m 14 ls1 [])) (Kh1 : ∀ (y0 : Nat) (y1 : Nat) (y2 : Nat) (y3 : Int32) (y4 : Int32) (y5 : Int32) (y6 : Int32) (S2 : MS), out = .inl (.inr (.inl (y0, y1, y2, y3, y4, y5, y6, S2))) → ∀ (H1 : Heap) (locs1 : List Loc) (ls1 : Array Slot), ST D cy ad A s.heap (ZN n0 s.heap.size) S2 H1 locs1 → lv_has ls1 7 [(0, .ref (ad y0)), (1, .ref (ad y1)), (2, .ref (ad y2)), (3, .int y3), (4, .int y4), (5, .int y5), (6, .int y6)] → W p l e rmX4_match s m args below meth c H1 locs1 0 0 (MQ below (QcM D cy ad A n0 S' (some (.int r))) args s 0 0 A) (F0 m 23 ls1 [])) (Kh2 : ∀ (y0 : Nat) (y1 : Int32) (y2 : Int32) (y3 : Int32) (S2 : MS), out = .inl (.inr (.inr (.inl (y0, y1, y2, y3, S2)))) → ∀ (H1 : Heap) (locs1 : List Loc) (ls1 : Array Slot), ST D cy ad A s.heap (ZN n0 s.heap.size) S2 H1 locs1 → lv_has ls1 7 [(0, .ref (ad y0)), (3, .int y1), (4, .int y2), (5, .int y3)] → W p l e rmX4_match s m args below meth c H1 locs1 0 0 (MQ below (QcM D cy ad A n0 S' (some (.int r))) args s 0 0 A) (F0 m 76 ls1 [])) (Kh3 : ∀ (y0 : Nat) (y1 : Int32) (y2 : Int32) (y3 : Int32) (S2 : MS), out = .inl (.inr (.inr (.inr (.inl (y0, y1, y2, y3, S2))))) → ∀ (H1 : Heap) (locs1 : List Loc) (ls1 : Array Slot), ST D cy ad A s.heap (ZN n0 s.heap.size) S2 H1 locs1 → lv_has ls1 7 [(0, .ref (ad y0)), (3, .int y1), (4, .int y2), (5, .int y3)] → W p l e rmX4_match s m args below meth c H1 locs1 0 0 (MQ below (QcM D cy ad A n0 S' (some (.int r))) args s 0 0 A) (F0 m 116 ls1 [])) (Kh4 : ∀ (y0 : Nat) (y1 : Int32) (y2 : Int32) (y3 : Int32) (y4 : Int32) (S2 : MS), out = .inl (.inr (.inr (.inr (.inr (y0, y1, y2, y3, y4, S2))))) → ∀ (H1 : Heap) (locs1 : List Loc) (ls1 : Array Slot), ST D cy ad A s.heap (ZN n0 s.heap.size) S2 H1 locs1 → lv_has ls1 7 [(0, .ref (ad y0)), (3, .int y1), (4, .int y2), (5, .int y3), (6, .int y4)] → W p l e rmX4_match s m args below meth c H1 locs1 0 0 (MQ below (QcM D cy ad A n0 S' (some (.int r))) args s 0 0 A) (F0 m 124 ls1 [])) : W p l e rmX4_match s m args below meth c H locs 0 0 (MQ below (QcM D cy ad A n0 S' (some (.int r))) args s 0 0 A) (F0 m 0 ls []) := by
  unfold bX4_match_0 at hF
  obtain ⟨hx, hb, -, hown, -, hts, -⟩ := id C0
  refine lv_aload_n hx hb dX4_match_0 rfl (lv_at hl 1 rfl) ?_
  obtain ⟨_, hrec, hF⟩ := ob hF
  obtain ⟨v1, hcl, hF⟩ := ob hF
  refine go_SI (r_V (rest := []) (As := []) C0 cb_X4_23 M.1 hrec (tJx4a65c_size_8abf5 l D cy ad A hcl) (pre_R C0 M.1) hl dX4_match_1 rfl (Nat.le_of_ble_eq_true rfl) ⟨rfl, rfl⟩ ⟨Nat.le_of_ble_eq_true rfl, Nat.le_of_ble_eq_true rfl⟩ ⟨Nat.le_of_ble_eq_true rfl, Nat.le_of_ble_eq_true rfl⟩ rfl) ?_
  refine lv_istore_n (lv' := [(3, .int v1), (0, .ref (ad x0)), (1, .ref (ad x1)), (2, .ref (ad x2))]) hx hb dX4_match_4 rfl hl (by decide) rfl (fun ls hl => ?_)
  refine lv_aload_n hx hb dX4_match_5 rfl (lv_at hl 3 rfl) ?_
  obtain ⟨_, hrec, hF⟩ := ob hF
  obtain ⟨v6, hcl, hF⟩ := ob hF
  refine go_SI (r_V (rest := []) (As := []) C0 cb_X4_23 M.1 hrec (tJx4a65c_size_8abf5 l D cy ad A hcl) (pre_R C0 M.1) hl dX4_match_6 rfl (Nat.le_of_ble_eq_true rfl) ⟨rfl, rfl⟩ ⟨Nat.le_of_ble_eq_true rfl, Nat.le_of_ble_eq_true rfl⟩ ⟨Nat.le_of_ble_eq_true rfl, Nat.le_of_ble_eq_true rfl⟩ rfl) ?_
  refine lv_istore (lv' := [(4, .int v6), (3, .int v1), (0, .ref (ad x0)), (1, .ref (ad x1)), (2, .ref (ad x2))]) hx hb dX4_match_9 hl (by decide) rfl (fun ls hl => ?_)
  refine lv_iconst (v := (0 : Int32)) hx hb dX4_match_11 (by decide) ?_
  refine lv_istore (lv' := [(5, .int (0 : Int32)), (4, .int v6), (3, .int v1), (0, .ref (ad x0)), (1, .ref (ad x1)), (2, .ref (ad x2))]) hx hb dX4_match_12 hl (by decide) rfl (fun ls hl => ?_)
  exact Kh0 _ _ _ _ _ _ _ (Option.some.inj hF).symm _ _ _ M (lv_sub hl [3, 4, 5, 2, 1, 0] rfl)
set_option maxHeartbeats 4000000 in
set_option maxRecDepth 100000 in
theorem wX4_match_14 {p : Program} {l : Launch} {e : Env} {s : State} {m : MethodId} {args : Array Value} {below : List Frame} {meth : Method} {c : Code} {D : va_G} {cy : Nat → ClassId} (ad : Nat → Nat) (A : Nat → Prop) {S : MS} {S' : MS} {H : Heap} {locs : List Loc} {n0 : Nat} {r : Int32} {out : (((Nat × Nat × Nat × Int32 × Int32 × Int32 × MS) ⊕ ((Nat × Nat × Nat × Int32 × Int32 × Int32 × Int32 × MS) ⊕ ((Nat × Int32 × Int32 × Int32 × MS) ⊕ ((Nat × Int32 × Int32 × Int32 × MS) ⊕ (Nat × Int32 × Int32 × Int32 × Int32 × MS))))) ⊕ (Int32 × MS))} {ls : Array Slot} {x0 : Nat} {x1 : Nat} {x2 : Nat} {x3 : Int32} {x4 : Int32} {x5 : Int32} (C0 : CX p s m args meth c RX4 cX4_match 7 D cy) (M : ST D cy ad A s.heap (ZN n0 s.heap.size) S H locs) (hr : meth.sig.returnType = some .int) (hF : bX4_match_14 S x0 x1 x2 x3 x4 x5 = some out) (hl : lv_has ls 7 [(0, .ref (ad x0)), (1, .ref (ad x1)), (2, .ref (ad x2)), (3, .int x3), (4, .int x4), (5, .int x5)]) (Kr : ∀ r9, out = .inr r9 → r9 = (r, S')) (Kh0 : ∀ (y0 : Nat) (y1 : Nat) (y2 : Nat) (y3 : Int32) (y4 : Int32) (y5 : Int32) (S2 : MS), out = .inl (.inl (y0, y1, y2, y3, y4, y5, S2)) → ∀ (H1 : Heap) (locs1 : List Loc) (ls1 : Array Slot), ST D cy ad A s.heap (ZN n0 s.heap.size) S2 H1 locs1 → lv_has ls1 7 [(0, .ref (ad y0)), (1, .ref (ad y1)), (2, .ref (ad y2)), (3, .int y3), (4, .int y4), (5, .int y5)] → W p l e rmX4_match s m args below meth c H1 locs1 0 0 (MQ below (QcM D cy ad A n0 S' (some (.int r))) args s 0 0 A) (F0 m 14 ls1 [])) (Kh1 : ∀ (y0 : Nat) (y1 : Nat) (y2 : Nat) (y3 : Int32) (y4 : Int32) (y5 : Int32) (y6 : Int32) (S2 : MS), out = .inl (.inr (.inl (y0, y1, y2, y3, y4, y5, y6, S2))) → ∀ (H1 : Heap) (locs1 : List Loc) (ls1 : Array Slot), ST D cy ad A s.heap (ZN n0 s.heap.size) S2 H1 locs1 → lv_has ls1 7 [(0, .ref (ad y0)), (1, .ref (ad y1)), (2, .ref (ad y2)), (3, .int y3), (4, .int y4), (5, .int y5), (6, .int y6)] → W p l e rmX4_match s m args below meth c H1 locs1 0 0 (MQ below (QcM D cy ad A n0 S' (some (.int r))) args s 0 0 A) (F0 m 23 ls1 [])) (Kh2 : ∀ (y0 : Nat) (y1 : Int32) (y2 : Int32) (y3 : Int32) (S2 : MS), out = .inl (.inr (.inr (.inl (y0, y1, y2, y3, S2)))) → ∀ (H1 : Heap) (locs1 : List Loc) (ls1 : Array Slot), ST D cy ad A s.heap (ZN n0 s.heap.size) S2 H1 locs1 → lv_has ls1 7 [(0, .ref (ad y0)), (3, .int y1), (4, .int y2), (5, .int y3)] → W p l e rmX4_match s m args below meth c H1 locs1 0 0 (MQ below (QcM D cy ad A n0 S' (some (.int r))) args s 0 0 A) (F0 m 76 ls1 [])) (Kh3 : ∀ (y0 : Nat) (y1 : Int32) (y2 : Int32) (y3 : Int32) (S2 : MS), out = .inl (.inr (.inr (.inr (.inl (y0, y1, y2, y3, S2))))) → ∀ (H1 : Heap) (locs1 : List Loc) (ls1 : Array Slot), ST D cy ad A s.heap (ZN n0 s.heap.size) S2 H1 locs1 → lv_has ls1 7 [(0, .ref (ad y0)), (3, .int y1), (4, .int y2), (5, .int y3)] → W p l e rmX4_match s m args below meth c H1 locs1 0 0 (MQ below (QcM D cy ad A n0 S' (some (.int r))) args s 0 0 A) (F0 m 116 ls1 [])) (Kh4 : ∀ (y0 : Nat) (y1 : Int32) (y2 : Int32) (y3 : Int32) (y4 : Int32) (S2 : MS), out = .inl (.inr (.inr (.inr (.inr (y0, y1, y2, y3, y4, S2))))) → ∀ (H1 : Heap) (locs1 : List Loc) (ls1 : Array Slot), ST D cy ad A s.heap (ZN n0 s.heap.size) S2 H1 locs1 → lv_has ls1 7 [(0, .ref (ad y0)), (3, .int y1), (4, .int y2), (5, .int y3), (6, .int y4)] → W p l e rmX4_match s m args below meth c H1 locs1 0 0 (MQ below (QcM D cy ad A n0 S' (some (.int r))) args s 0 0 A) (F0 m 124 ls1 [])) : W p l e rmX4_match s m args below meth c H locs 0 0 (MQ below (QcM D cy ad A n0 S' (some (.int r))) args s 0 0 A) (F0 m 14 ls []) := by
  unfold bX4_match_14 at hF
  obtain ⟨hx, hb, -, hown, -, hts, -⟩ := id C0
  refine lv_iload hx hb dX4_match_14 (lv_at hl 5 rfl) ?_
  refine lv_iload_n hx hb dX4_match_16 rfl (lv_at hl 3 rfl) ?_
  refine lv_icmp_ge (tgt := 73) hx hb dX4_match_17 (by decide) (fun hc => ?_) (fun hc => ?_)
  · have hF := oi_t hc hF
    refine lv_iconst (v := (0 : Int32)) hx hb dX4_match_73 (by decide) ?_
    refine lv_istore (lv' := [(5, .int (0 : Int32)), (0, .ref (ad x0)), (1, .ref (ad x1)), (2, .ref (ad x2)), (3, .int x3), (4, .int x4)]) hx hb dX4_match_74 hl (by decide) rfl (fun ls hl => ?_)
    exact Kh2 _ _ _ _ _ (Option.some.inj hF).symm _ _ _ M (lv_sub hl [1, 4, 5, 0] rfl)
  · have hF := oi_f hc hF
    refine lv_iconst (v := (0 : Int32)) hx hb dX4_match_20 (by decide) ?_
    refine lv_istore (lv' := [(6, .int (0 : Int32)), (0, .ref (ad x0)), (1, .ref (ad x1)), (2, .ref (ad x2)), (3, .int x3), (4, .int x4), (5, .int x5)]) hx hb dX4_match_21 hl (by decide) rfl (fun ls hl => ?_)
    exact Kh1 _ _ _ _ _ _ _ _ (Option.some.inj hF).symm _ _ _ M (lv_sub hl [1, 2, 3, 4, 5, 6, 0] rfl)
set_option maxHeartbeats 4000000 in
set_option maxRecDepth 100000 in
theorem wX4_match_23 {p : Program} {l : Launch} {e : Env} {s : State} {m : MethodId} {args : Array Value} {below : List Frame} {meth : Method} {c : Code} {D : va_G} {cy : Nat → ClassId} (ad : Nat → Nat) (A : Nat → Prop) {S : MS} {S' : MS} {H : Heap} {locs : List Loc} {n0 : Nat} {r : Int32} {out : (((Nat × Nat × Nat × Int32 × Int32 × Int32 × MS) ⊕ ((Nat × Nat × Nat × Int32 × Int32 × Int32 × Int32 × MS) ⊕ ((Nat × Int32 × Int32 × Int32 × MS) ⊕ ((Nat × Int32 × Int32 × Int32 × MS) ⊕ (Nat × Int32 × Int32 × Int32 × Int32 × MS))))) ⊕ (Int32 × MS))} {ls : Array Slot} {x0 : Nat} {x1 : Nat} {x2 : Nat} {x3 : Int32} {x4 : Int32} {x5 : Int32} {x6 : Int32} (C0 : CX p s m args meth c RX4 cX4_match 7 D cy) (M : ST D cy ad A s.heap (ZN n0 s.heap.size) S H locs) (hr : meth.sig.returnType = some .int) (hF : bX4_match_23 S x0 x1 x2 x3 x4 x5 x6 = some out) (hl : lv_has ls 7 [(0, .ref (ad x0)), (1, .ref (ad x1)), (2, .ref (ad x2)), (3, .int x3), (4, .int x4), (5, .int x5), (6, .int x6)]) (Kr : ∀ r9, out = .inr r9 → r9 = (r, S')) (Kh0 : ∀ (y0 : Nat) (y1 : Nat) (y2 : Nat) (y3 : Int32) (y4 : Int32) (y5 : Int32) (S2 : MS), out = .inl (.inl (y0, y1, y2, y3, y4, y5, S2)) → ∀ (H1 : Heap) (locs1 : List Loc) (ls1 : Array Slot), ST D cy ad A s.heap (ZN n0 s.heap.size) S2 H1 locs1 → lv_has ls1 7 [(0, .ref (ad y0)), (1, .ref (ad y1)), (2, .ref (ad y2)), (3, .int y3), (4, .int y4), (5, .int y5)] → W p l e rmX4_match s m args below meth c H1 locs1 0 0 (MQ below (QcM D cy ad A n0 S' (some (.int r))) args s 0 0 A) (F0 m 14 ls1 [])) (Kh1 : ∀ (y0 : Nat) (y1 : Nat) (y2 : Nat) (y3 : Int32) (y4 : Int32) (y5 : Int32) (y6 : Int32) (S2 : MS), out = .inl (.inr (.inl (y0, y1, y2, y3, y4, y5, y6, S2))) → ∀ (H1 : Heap) (locs1 : List Loc) (ls1 : Array Slot), ST D cy ad A s.heap (ZN n0 s.heap.size) S2 H1 locs1 → lv_has ls1 7 [(0, .ref (ad y0)), (1, .ref (ad y1)), (2, .ref (ad y2)), (3, .int y3), (4, .int y4), (5, .int y5), (6, .int y6)] → W p l e rmX4_match s m args below meth c H1 locs1 0 0 (MQ below (QcM D cy ad A n0 S' (some (.int r))) args s 0 0 A) (F0 m 23 ls1 [])) (Kh2 : ∀ (y0 : Nat) (y1 : Int32) (y2 : Int32) (y3 : Int32) (S2 : MS), out = .inl (.inr (.inr (.inl (y0, y1, y2, y3, S2)))) → ∀ (H1 : Heap) (locs1 : List Loc) (ls1 : Array Slot), ST D cy ad A s.heap (ZN n0 s.heap.size) S2 H1 locs1 → lv_has ls1 7 [(0, .ref (ad y0)), (3, .int y1), (4, .int y2), (5, .int y3)] → W p l e rmX4_match s m args below meth c H1 locs1 0 0 (MQ below (QcM D cy ad A n0 S' (some (.int r))) args s 0 0 A) (F0 m 76 ls1 [])) (Kh3 : ∀ (y0 : Nat) (y1 : Int32) (y2 : Int32) (y3 : Int32) (S2 : MS), out = .inl (.inr (.inr (.inr (.inl (y0, y1, y2, y3, S2))))) → ∀ (H1 : Heap) (locs1 : List Loc) (ls1 : Array Slot), ST D cy ad A s.heap (ZN n0 s.heap.size) S2 H1 locs1 → lv_has ls1 7 [(0, .ref (ad y0)), (3, .int y1), (4, .int y2), (5, .int y3)] → W p l e rmX4_match s m args below meth c H1 locs1 0 0 (MQ below (QcM D cy ad A n0 S' (some (.int r))) args s 0 0 A) (F0 m 116 ls1 [])) (Kh4 : ∀ (y0 : Nat) (y1 : Int32) (y2 : Int32) (y3 : Int32) (y4 : Int32) (S2 : MS), out = .inl (.inr (.inr (.inr (.inr (y0, y1, y2, y3, y4, S2))))) → ∀ (H1 : Heap) (locs1 : List Loc) (ls1 : Array Slot), ST D cy ad A s.heap (ZN n0 s.heap.size) S2 H1 locs1 → lv_has ls1 7 [(0, .ref (ad y0)), (3, .int y1), (4, .int y2), (5, .int y3), (6, .int y4)] → W p l e rmX4_match s m args below meth c H1 locs1 0 0 (MQ below (QcM D cy ad A n0 S' (some (.int r))) args s 0 0 A) (F0 m 124 ls1 [])) : W p l e rmX4_match s m args below meth c H locs 0 0 (MQ below (QcM D cy ad A n0 S' (some (.int r))) args s 0 0 A) (F0 m 23 ls []) := by
  unfold bX4_match_23 at hF
  obtain ⟨hx, hb, -, hown, -, hts, -⟩ := id C0
  refine lv_iload hx hb dX4_match_23 (lv_at hl 6 rfl) ?_
  refine lv_iload hx hb dX4_match_25 (lv_at hl 4 rfl) ?_
  refine lv_icmp_ge (tgt := 67) hx hb dX4_match_27 (by decide) (fun hc => ?_) (fun hc => ?_)
  · have hF := oi_t hc hF
    obtain ⟨v67, hv, hF⟩ := ob hF
    refine lv_iinc (v := v67) (lv' := [(5, .int v67), (0, .ref (ad x0)), (1, .ref (ad x1)), (2, .ref (ad x2)), (3, .int x3), (4, .int x4), (6, .int x6)]) hx hb dX4_match_67 hl (k := 5) rfl (by rw [← vtI hv]; rfl) (by decide) rfl (fun ls hl => ?_)
    refine lv_goto (tgt := 14) hx hb dX4_match_70 (by decide) ?_
    exact Kh0 _ _ _ _ _ _ _ (Option.some.inj hF).symm _ _ _ M (lv_sub hl [1, 2, 3, 4, 5, 0] rfl)
  · have hF := oi_f hc hF
    refine lv_aload_n hx hb dX4_match_30 rfl (lv_at hl 0 rfl) ?_
    obtain ⟨v31, hv, hF⟩ := ob hF
    refine k_getP C0 M.1 hv fl_X4_11 dX4_match_31 ?_
    refine lv_iload hx hb dX4_match_34 (lv_at hl 5 rfl) ?_
    obtain ⟨v36, hv, hF⟩ := ob hF
    refine k_ldP (ty := (.array .int)) 4 C0 M.1 (by decide) rfl rfl hv dX4_match_36 ?_
    refine lv_iload hx hb dX4_match_37 (lv_at hl 6 rfl) ?_
    refine lv_aload_n hx hb dX4_match_39 rfl (lv_at hl 1 rfl) ?_
    refine lv_iload hx hb dX4_match_40 (lv_at hl 5 rfl) ?_
    obtain ⟨_, hrec, hF⟩ := ob hF
    obtain ⟨v42, hcl, hF⟩ := ob hF
    refine go_SP (r_V (rest := [.int x6, .ref (ad v36)]) (As := [.int x5]) C0 cb_X4_29 M.1 hrec (tJx4a65c_get_915e3 l D cy ad A hcl) (pre_R C0 M.1) hl dX4_match_42 rfl (Nat.le_of_ble_eq_true rfl) ⟨rfl, rfl⟩ ⟨Nat.le_of_ble_eq_true rfl, Nat.le_of_ble_eq_true rfl⟩ ⟨Nat.le_of_ble_eq_true rfl, Nat.le_of_ble_eq_true rfl⟩ rfl) ?_
    obtain ⟨v45, hv, hF⟩ := ob hF
    refine k_cast (C := RX3) (T := TX3) (N := 5) C0 M.1 hv (by decide) rfl (uw_of 842 (by decide +kernel) rfl) dX4_match_45 ?_
    refine lv_aload_n hx hb dX4_match_48 rfl (lv_at hl 2 rfl) ?_
    refine lv_iload hx hb dX4_match_49 (lv_at hl 6 rfl) ?_
    obtain ⟨_, hrec, hF⟩ := ob hF
    obtain ⟨v51, hcl, hF⟩ := ob hF
    refine go_SP (r_V (rest := [.ref (ad v45), .int x6, .ref (ad v36)]) (As := [.int x6]) C0 cb_X4_29 M.1 hrec (tJx4a65c_get_915e3 l D cy ad A hcl) (pre_R C0 M.1) hl dX4_match_51 rfl (Nat.le_of_ble_eq_true rfl) ⟨rfl, rfl⟩ ⟨Nat.le_of_ble_eq_true rfl, Nat.le_of_ble_eq_true rfl⟩ ⟨Nat.le_of_ble_eq_true rfl, Nat.le_of_ble_eq_true rfl⟩ rfl) ?_
    obtain ⟨v54, hv, hF⟩ := ob hF
    refine k_cast (C := RX3) (T := TX3) (N := 5) C0 M.1 hv (by decide) rfl (uw_of 842 (by decide +kernel) rfl) dX4_match_54 ?_
    obtain ⟨v57, hcl, hF⟩ := ob hF
    refine go_SI (r_S (rest := [.int x6, .ref (ad v36)]) (As := [.ref (ad v45), .ref (ad v54)]) C0 cb_X4_35 (tX4_pairCost l D cy ad A hcl) (pre_R C0 M.1) hl dX4_match_57 rfl (Nat.le_of_ble_eq_true rfl) ⟨rfl, rfl⟩ ⟨Nat.le_of_ble_eq_true rfl, Nat.le_of_ble_eq_true rfl⟩ ⟨Nat.le_of_ble_eq_true rfl, Nat.le_of_ble_eq_true rfl⟩ rfl) ?_
    obtain ⟨S60, hv, hF⟩ := ob hF
    refine k_st C0 M hv dX4_match_60 (fun H locs M => ?_)
    obtain ⟨v61, hv, hF⟩ := ob hF
    refine lv_iinc (v := v61) (lv' := [(6, .int v61), (0, .ref (ad x0)), (1, .ref (ad x1)), (2, .ref (ad x2)), (3, .int x3), (4, .int x4), (5, .int x5)]) hx hb dX4_match_61 hl (k := 6) rfl (by rw [← vtI hv]; rfl) (by decide) rfl (fun ls hl => ?_)
    refine lv_goto (tgt := 23) hx hb dX4_match_64 (by decide) ?_
    exact Kh1 _ _ _ _ _ _ _ _ (Option.some.inj hF).symm _ _ _ M (lv_sub hl [1, 2, 3, 4, 5, 6, 0] rfl)
set_option maxHeartbeats 4000000 in
set_option maxRecDepth 100000 in
theorem wX4_match_76 {p : Program} {l : Launch} {e : Env} {s : State} {m : MethodId} {args : Array Value} {below : List Frame} {meth : Method} {c : Code} {D : va_G} {cy : Nat → ClassId} (ad : Nat → Nat) (A : Nat → Prop) {S : MS} {S' : MS} {H : Heap} {locs : List Loc} {n0 : Nat} {r : Int32} {out : (((Nat × Nat × Nat × Int32 × Int32 × Int32 × MS) ⊕ ((Nat × Nat × Nat × Int32 × Int32 × Int32 × Int32 × MS) ⊕ ((Nat × Int32 × Int32 × Int32 × MS) ⊕ ((Nat × Int32 × Int32 × Int32 × MS) ⊕ (Nat × Int32 × Int32 × Int32 × Int32 × MS))))) ⊕ (Int32 × MS))} {ls : Array Slot} {x0 : Nat} {x3 : Int32} {x4 : Int32} {x5 : Int32} (C0 : CX p s m args meth c RX4 cX4_match 7 D cy) (M : ST D cy ad A s.heap (ZN n0 s.heap.size) S H locs) (hr : meth.sig.returnType = some .int) (hF : bX4_match_76 S x0 x3 x4 x5 = some out) (hl : lv_has ls 7 [(0, .ref (ad x0)), (3, .int x3), (4, .int x4), (5, .int x5)]) (Kr : ∀ r9, out = .inr r9 → r9 = (r, S')) (Kh0 : ∀ (y0 : Nat) (y1 : Nat) (y2 : Nat) (y3 : Int32) (y4 : Int32) (y5 : Int32) (S2 : MS), out = .inl (.inl (y0, y1, y2, y3, y4, y5, S2)) → ∀ (H1 : Heap) (locs1 : List Loc) (ls1 : Array Slot), ST D cy ad A s.heap (ZN n0 s.heap.size) S2 H1 locs1 → lv_has ls1 7 [(0, .ref (ad y0)), (1, .ref (ad y1)), (2, .ref (ad y2)), (3, .int y3), (4, .int y4), (5, .int y5)] → W p l e rmX4_match s m args below meth c H1 locs1 0 0 (MQ below (QcM D cy ad A n0 S' (some (.int r))) args s 0 0 A) (F0 m 14 ls1 [])) (Kh1 : ∀ (y0 : Nat) (y1 : Nat) (y2 : Nat) (y3 : Int32) (y4 : Int32) (y5 : Int32) (y6 : Int32) (S2 : MS), out = .inl (.inr (.inl (y0, y1, y2, y3, y4, y5, y6, S2))) → ∀ (H1 : Heap) (locs1 : List Loc) (ls1 : Array Slot), ST D cy ad A s.heap (ZN n0 s.heap.size) S2 H1 locs1 → lv_has ls1 7 [(0, .ref (ad y0)), (1, .ref (ad y1)), (2, .ref (ad y2)), (3, .int y3), (4, .int y4), (5, .int y5), (6, .int y6)] → W p l e rmX4_match s m args below meth c H1 locs1 0 0 (MQ below (QcM D cy ad A n0 S' (some (.int r))) args s 0 0 A) (F0 m 23 ls1 [])) (Kh2 : ∀ (y0 : Nat) (y1 : Int32) (y2 : Int32) (y3 : Int32) (S2 : MS), out = .inl (.inr (.inr (.inl (y0, y1, y2, y3, S2)))) → ∀ (H1 : Heap) (locs1 : List Loc) (ls1 : Array Slot), ST D cy ad A s.heap (ZN n0 s.heap.size) S2 H1 locs1 → lv_has ls1 7 [(0, .ref (ad y0)), (3, .int y1), (4, .int y2), (5, .int y3)] → W p l e rmX4_match s m args below meth c H1 locs1 0 0 (MQ below (QcM D cy ad A n0 S' (some (.int r))) args s 0 0 A) (F0 m 76 ls1 [])) (Kh3 : ∀ (y0 : Nat) (y1 : Int32) (y2 : Int32) (y3 : Int32) (S2 : MS), out = .inl (.inr (.inr (.inr (.inl (y0, y1, y2, y3, S2))))) → ∀ (H1 : Heap) (locs1 : List Loc) (ls1 : Array Slot), ST D cy ad A s.heap (ZN n0 s.heap.size) S2 H1 locs1 → lv_has ls1 7 [(0, .ref (ad y0)), (3, .int y1), (4, .int y2), (5, .int y3)] → W p l e rmX4_match s m args below meth c H1 locs1 0 0 (MQ below (QcM D cy ad A n0 S' (some (.int r))) args s 0 0 A) (F0 m 116 ls1 [])) (Kh4 : ∀ (y0 : Nat) (y1 : Int32) (y2 : Int32) (y3 : Int32) (y4 : Int32) (S2 : MS), out = .inl (.inr (.inr (.inr (.inr (y0, y1, y2, y3, y4, S2))))) → ∀ (H1 : Heap) (locs1 : List Loc) (ls1 : Array Slot), ST D cy ad A s.heap (ZN n0 s.heap.size) S2 H1 locs1 → lv_has ls1 7 [(0, .ref (ad y0)), (3, .int y1), (4, .int y2), (5, .int y3), (6, .int y4)] → W p l e rmX4_match s m args below meth c H1 locs1 0 0 (MQ below (QcM D cy ad A n0 S' (some (.int r))) args s 0 0 A) (F0 m 124 ls1 [])) : W p l e rmX4_match s m args below meth c H locs 0 0 (MQ below (QcM D cy ad A n0 S' (some (.int r))) args s 0 0 A) (F0 m 76 ls []) := by
  unfold bX4_match_76 at hF
  obtain ⟨hx, hb, -, hown, -, hts, -⟩ := id C0
  refine lv_iload hx hb dX4_match_76 (lv_at hl 3 rfl) ?_
  refine lv_iconst (v := (1 : Int32)) hx hb dX4_match_78 (by decide) ?_
  refine lv_iload hx hb dX4_match_79 (lv_at hl 2 rfl) ?_
  refine lv_ishl hx hb dX4_match_81 ?_
  refine lv_icmp_ge (tgt := 111) hx hb dX4_match_82 (by decide) (fun hc => ?_) (fun hc => ?_)
  · have hF := oi_t hc hF
    refine lv_iload_n hx hb dX4_match_111 rfl (lv_at hl 1 rfl) ?_
    refine lv_iconst (v := (1 : Int32)) hx hb dX4_match_112 (by decide) ?_
    refine lv_isub hx hb dX4_match_113 ?_
    obtain ⟨v114, hv, hF⟩ := ob hF
    have hv := vtI hv
    refine vtopi hv ?_
    refine lv_istore (lv' := [(5, .int v114), (0, .ref (ad x0)), (3, .int x3), (4, .int x4)]) hx hb dX4_match_114 hl (by decide) rfl (fun ls hl => ?_)
    exact Kh3 _ _ _ _ _ (Option.some.inj hF).symm _ _ _ M (lv_sub hl [1, 2, 3, 0] rfl)
  · have hF := oi_f hc hF
    refine lv_aload_n hx hb dX4_match_85 rfl (lv_at hl 0 rfl) ?_
    obtain ⟨v86, hv, hF⟩ := ob hF
    refine k_getP C0 M.1 hv fl_X4_16 dX4_match_86 ?_
    refine lv_iload_n hx hb dX4_match_89 rfl (lv_at hl 1 rfl) ?_
    obtain ⟨v90, hv, hF⟩ := ob hF
    refine k_ldP (ty := (.array .int)) 4 C0 M.1 (by decide) rfl rfl hv dX4_match_90 ?_
    refine lv_iload hx hb dX4_match_91 (lv_at hl 3 rfl) ?_
    refine lv_bipush (v := (15 : Int32)) hx hb dX4_match_93 (by decide) ?_
    refine lv_iload hx hb dX4_match_95 (lv_at hl 2 rfl) ?_
    refine lv_iload hx hb dX4_match_97 (lv_at hl 3 rfl) ?_
    obtain ⟨v99, hcl, hF⟩ := ob hF
    refine go_SI (r_S (rest := [.int x4, .int (15 : Int32), .int x5, .ref (ad v90)]) (As := [.int x5]) C0 cb_X4_39 (tJ6_bitCount_0f7a4 l D cy ad hcl) (pre_S C0) hl dX4_match_99 rfl (Nat.le_of_ble_eq_true rfl) ⟨rfl, rfl⟩ ⟨Nat.le_of_ble_eq_true rfl, Nat.le_of_ble_eq_true rfl⟩ ⟨Nat.le_of_ble_eq_true rfl, Nat.le_of_ble_eq_true rfl⟩ rfl) ?_
    refine lv_isub hx hb dX4_match_102 ?_
    refine lv_imul hx hb dX4_match_103 ?_
    obtain ⟨S104, hv, hF⟩ := ob hF
    refine k_st C0 M hv dX4_match_104 (fun H locs M => ?_)
    obtain ⟨v105, hv, hF⟩ := ob hF
    refine lv_iinc (v := v105) (lv' := [(5, .int v105), (0, .ref (ad x0)), (3, .int x3), (4, .int x4)]) hx hb dX4_match_105 hl (k := 3) rfl (by rw [← vtI hv]; rfl) (by decide) rfl (fun ls hl => ?_)
    refine lv_goto (tgt := 76) hx hb dX4_match_108 (by decide) ?_
    exact Kh2 _ _ _ _ _ (Option.some.inj hF).symm _ _ _ M (lv_sub hl [1, 2, 3, 0] rfl)
set_option maxHeartbeats 4000000 in
set_option maxRecDepth 100000 in
theorem wX4_match_116 {p : Program} {l : Launch} {e : Env} {s : State} {m : MethodId} {args : Array Value} {below : List Frame} {meth : Method} {c : Code} {D : va_G} {cy : Nat → ClassId} (ad : Nat → Nat) (A : Nat → Prop) {S : MS} {S' : MS} {H : Heap} {locs : List Loc} {n0 : Nat} {r : Int32} {out : (((Nat × Nat × Nat × Int32 × Int32 × Int32 × MS) ⊕ ((Nat × Nat × Nat × Int32 × Int32 × Int32 × Int32 × MS) ⊕ ((Nat × Int32 × Int32 × Int32 × MS) ⊕ ((Nat × Int32 × Int32 × Int32 × MS) ⊕ (Nat × Int32 × Int32 × Int32 × Int32 × MS))))) ⊕ (Int32 × MS))} {ls : Array Slot} {x0 : Nat} {x3 : Int32} {x4 : Int32} {x5 : Int32} (C0 : CX p s m args meth c RX4 cX4_match 7 D cy) (M : ST D cy ad A s.heap (ZN n0 s.heap.size) S H locs) (hr : meth.sig.returnType = some .int) (hF : bX4_match_116 S x0 x3 x4 x5 = some out) (hl : lv_has ls 7 [(0, .ref (ad x0)), (3, .int x3), (4, .int x4), (5, .int x5)]) (Kr : ∀ r9, out = .inr r9 → r9 = (r, S')) (Kh0 : ∀ (y0 : Nat) (y1 : Nat) (y2 : Nat) (y3 : Int32) (y4 : Int32) (y5 : Int32) (S2 : MS), out = .inl (.inl (y0, y1, y2, y3, y4, y5, S2)) → ∀ (H1 : Heap) (locs1 : List Loc) (ls1 : Array Slot), ST D cy ad A s.heap (ZN n0 s.heap.size) S2 H1 locs1 → lv_has ls1 7 [(0, .ref (ad y0)), (1, .ref (ad y1)), (2, .ref (ad y2)), (3, .int y3), (4, .int y4), (5, .int y5)] → W p l e rmX4_match s m args below meth c H1 locs1 0 0 (MQ below (QcM D cy ad A n0 S' (some (.int r))) args s 0 0 A) (F0 m 14 ls1 [])) (Kh1 : ∀ (y0 : Nat) (y1 : Nat) (y2 : Nat) (y3 : Int32) (y4 : Int32) (y5 : Int32) (y6 : Int32) (S2 : MS), out = .inl (.inr (.inl (y0, y1, y2, y3, y4, y5, y6, S2))) → ∀ (H1 : Heap) (locs1 : List Loc) (ls1 : Array Slot), ST D cy ad A s.heap (ZN n0 s.heap.size) S2 H1 locs1 → lv_has ls1 7 [(0, .ref (ad y0)), (1, .ref (ad y1)), (2, .ref (ad y2)), (3, .int y3), (4, .int y4), (5, .int y5), (6, .int y6)] → W p l e rmX4_match s m args below meth c H1 locs1 0 0 (MQ below (QcM D cy ad A n0 S' (some (.int r))) args s 0 0 A) (F0 m 23 ls1 [])) (Kh2 : ∀ (y0 : Nat) (y1 : Int32) (y2 : Int32) (y3 : Int32) (S2 : MS), out = .inl (.inr (.inr (.inl (y0, y1, y2, y3, S2)))) → ∀ (H1 : Heap) (locs1 : List Loc) (ls1 : Array Slot), ST D cy ad A s.heap (ZN n0 s.heap.size) S2 H1 locs1 → lv_has ls1 7 [(0, .ref (ad y0)), (3, .int y1), (4, .int y2), (5, .int y3)] → W p l e rmX4_match s m args below meth c H1 locs1 0 0 (MQ below (QcM D cy ad A n0 S' (some (.int r))) args s 0 0 A) (F0 m 76 ls1 [])) (Kh3 : ∀ (y0 : Nat) (y1 : Int32) (y2 : Int32) (y3 : Int32) (S2 : MS), out = .inl (.inr (.inr (.inr (.inl (y0, y1, y2, y3, S2))))) → ∀ (H1 : Heap) (locs1 : List Loc) (ls1 : Array Slot), ST D cy ad A s.heap (ZN n0 s.heap.size) S2 H1 locs1 → lv_has ls1 7 [(0, .ref (ad y0)), (3, .int y1), (4, .int y2), (5, .int y3)] → W p l e rmX4_match s m args below meth c H1 locs1 0 0 (MQ below (QcM D cy ad A n0 S' (some (.int r))) args s 0 0 A) (F0 m 116 ls1 [])) (Kh4 : ∀ (y0 : Nat) (y1 : Int32) (y2 : Int32) (y3 : Int32) (y4 : Int32) (S2 : MS), out = .inl (.inr (.inr (.inr (.inr (y0, y1, y2, y3, y4, S2))))) → ∀ (H1 : Heap) (locs1 : List Loc) (ls1 : Array Slot), ST D cy ad A s.heap (ZN n0 s.heap.size) S2 H1 locs1 → lv_has ls1 7 [(0, .ref (ad y0)), (3, .int y1), (4, .int y2), (5, .int y3), (6, .int y4)] → W p l e rmX4_match s m args below meth c H1 locs1 0 0 (MQ below (QcM D cy ad A n0 S' (some (.int r))) args s 0 0 A) (F0 m 124 ls1 [])) : W p l e rmX4_match s m args below meth c H locs 0 0 (MQ below (QcM D cy ad A n0 S' (some (.int r))) args s 0 0 A) (F0 m 116 ls []) := by
  unfold bX4_match_116 at hF
  obtain ⟨hx, hb, -, hown, -, hts, -⟩ := id C0
  refine lv_iload hx hb dX4_match_116 (lv_at hl 3 rfl) ?_
  refine lv_if_lt (tgt := 165) hx hb dX4_match_118 (by decide) (fun hc => ?_) (fun hc => ?_)
  · have hF := oi_t hc hF
    refine lv_aload_n hx hb dX4_match_165 rfl (lv_at hl 0 rfl) ?_
    refine lv_iload_n hx hb dX4_match_166 rfl (lv_at hl 1 rfl) ?_
    refine lv_iload hx hb dX4_match_167 (lv_at hl 2 rfl) ?_
    obtain ⟨_, hrec, hF⟩ := ob hF
    obtain ⟨S169, hcl, hF⟩ := ob hF
    refine go_MV (r_V (rest := []) (As := [.int x3, .int x4]) C0 cb_X4_49 M.1 hrec (tX4_setPartners l D cy ad A hcl) (pre_R C0 M.1) hl dX4_match_169 rfl (Nat.le_of_ble_eq_true rfl) ⟨rfl, rfl⟩ ⟨Nat.le_of_ble_eq_true rfl, Nat.le_of_ble_eq_true rfl⟩ ⟨Nat.le_of_ble_eq_true rfl, Nat.le_of_ble_eq_true rfl⟩ rfl) M (fun H locs M => ?_)
    refine lv_aload_n hx hb dX4_match_172 rfl (lv_at hl 0 rfl) ?_
    obtain ⟨v173, hv, hF⟩ := ob hF
    refine k_getP C0 M.1 hv fl_X4_16 dX4_match_173 ?_
    refine lv_iconst (v := (0 : Int32)) hx hb dX4_match_176 (by decide) ?_
    obtain ⟨v177, hv, hF⟩ := ob hF
    refine k_ldP (ty := (.array .int)) 4 C0 M.1 (by decide) rfl rfl hv dX4_match_177 ?_
    refine lv_iconst (v := (0 : Int32)) hx hb dX4_match_178 (by decide) ?_
    obtain ⟨v179, hv, hF⟩ := ob hF
    refine k_ld C0 M.1 hv dX4_match_179 ?_
    obtain ⟨rfl, rfl⟩ := Prod.mk.inj (Kr _ (Option.some.inj hF).symm)
    exact rt_MI C0 M hr dX4_match_180
  · have hF := oi_f hc hF
    refine lv_iconst (v := (0 : Int32)) hx hb dX4_match_121 (by decide) ?_
    refine lv_istore (lv' := [(6, .int (0 : Int32)), (0, .ref (ad x0)), (3, .int x3), (4, .int x4), (5, .int x5)]) hx hb dX4_match_122 hl (by decide) rfl (fun ls hl => ?_)
    exact Kh4 _ _ _ _ _ _ (Option.some.inj hF).symm _ _ _ M (lv_sub hl [1, 2, 3, 4, 0] rfl)
set_option maxHeartbeats 4000000 in
set_option maxRecDepth 100000 in
theorem wX4_match_124 {p : Program} {l : Launch} {e : Env} {s : State} {m : MethodId} {args : Array Value} {below : List Frame} {meth : Method} {c : Code} {D : va_G} {cy : Nat → ClassId} (ad : Nat → Nat) (A : Nat → Prop) {S : MS} {S' : MS} {H : Heap} {locs : List Loc} {n0 : Nat} {r : Int32} {out : (((Nat × Nat × Nat × Int32 × Int32 × Int32 × MS) ⊕ ((Nat × Nat × Nat × Int32 × Int32 × Int32 × Int32 × MS) ⊕ ((Nat × Int32 × Int32 × Int32 × MS) ⊕ ((Nat × Int32 × Int32 × Int32 × MS) ⊕ (Nat × Int32 × Int32 × Int32 × Int32 × MS))))) ⊕ (Int32 × MS))} {ls : Array Slot} {x0 : Nat} {x3 : Int32} {x4 : Int32} {x5 : Int32} {x6 : Int32} (C0 : CX p s m args meth c RX4 cX4_match 7 D cy) (M : ST D cy ad A s.heap (ZN n0 s.heap.size) S H locs) (hr : meth.sig.returnType = some .int) (hF : bX4_match_124 S x0 x3 x4 x5 x6 = some out) (hl : lv_has ls 7 [(0, .ref (ad x0)), (3, .int x3), (4, .int x4), (5, .int x5), (6, .int x6)]) (Kr : ∀ r9, out = .inr r9 → r9 = (r, S')) (Kh0 : ∀ (y0 : Nat) (y1 : Nat) (y2 : Nat) (y3 : Int32) (y4 : Int32) (y5 : Int32) (S2 : MS), out = .inl (.inl (y0, y1, y2, y3, y4, y5, S2)) → ∀ (H1 : Heap) (locs1 : List Loc) (ls1 : Array Slot), ST D cy ad A s.heap (ZN n0 s.heap.size) S2 H1 locs1 → lv_has ls1 7 [(0, .ref (ad y0)), (1, .ref (ad y1)), (2, .ref (ad y2)), (3, .int y3), (4, .int y4), (5, .int y5)] → W p l e rmX4_match s m args below meth c H1 locs1 0 0 (MQ below (QcM D cy ad A n0 S' (some (.int r))) args s 0 0 A) (F0 m 14 ls1 [])) (Kh1 : ∀ (y0 : Nat) (y1 : Nat) (y2 : Nat) (y3 : Int32) (y4 : Int32) (y5 : Int32) (y6 : Int32) (S2 : MS), out = .inl (.inr (.inl (y0, y1, y2, y3, y4, y5, y6, S2))) → ∀ (H1 : Heap) (locs1 : List Loc) (ls1 : Array Slot), ST D cy ad A s.heap (ZN n0 s.heap.size) S2 H1 locs1 → lv_has ls1 7 [(0, .ref (ad y0)), (1, .ref (ad y1)), (2, .ref (ad y2)), (3, .int y3), (4, .int y4), (5, .int y5), (6, .int y6)] → W p l e rmX4_match s m args below meth c H1 locs1 0 0 (MQ below (QcM D cy ad A n0 S' (some (.int r))) args s 0 0 A) (F0 m 23 ls1 [])) (Kh2 : ∀ (y0 : Nat) (y1 : Int32) (y2 : Int32) (y3 : Int32) (S2 : MS), out = .inl (.inr (.inr (.inl (y0, y1, y2, y3, S2)))) → ∀ (H1 : Heap) (locs1 : List Loc) (ls1 : Array Slot), ST D cy ad A s.heap (ZN n0 s.heap.size) S2 H1 locs1 → lv_has ls1 7 [(0, .ref (ad y0)), (3, .int y1), (4, .int y2), (5, .int y3)] → W p l e rmX4_match s m args below meth c H1 locs1 0 0 (MQ below (QcM D cy ad A n0 S' (some (.int r))) args s 0 0 A) (F0 m 76 ls1 [])) (Kh3 : ∀ (y0 : Nat) (y1 : Int32) (y2 : Int32) (y3 : Int32) (S2 : MS), out = .inl (.inr (.inr (.inr (.inl (y0, y1, y2, y3, S2))))) → ∀ (H1 : Heap) (locs1 : List Loc) (ls1 : Array Slot), ST D cy ad A s.heap (ZN n0 s.heap.size) S2 H1 locs1 → lv_has ls1 7 [(0, .ref (ad y0)), (3, .int y1), (4, .int y2), (5, .int y3)] → W p l e rmX4_match s m args below meth c H1 locs1 0 0 (MQ below (QcM D cy ad A n0 S' (some (.int r))) args s 0 0 A) (F0 m 116 ls1 [])) (Kh4 : ∀ (y0 : Nat) (y1 : Int32) (y2 : Int32) (y3 : Int32) (y4 : Int32) (S2 : MS), out = .inl (.inr (.inr (.inr (.inr (y0, y1, y2, y3, y4, S2))))) → ∀ (H1 : Heap) (locs1 : List Loc) (ls1 : Array Slot), ST D cy ad A s.heap (ZN n0 s.heap.size) S2 H1 locs1 → lv_has ls1 7 [(0, .ref (ad y0)), (3, .int y1), (4, .int y2), (5, .int y3), (6, .int y4)] → W p l e rmX4_match s m args below meth c H1 locs1 0 0 (MQ below (QcM D cy ad A n0 S' (some (.int r))) args s 0 0 A) (F0 m 124 ls1 [])) : W p l e rmX4_match s m args below meth c H locs 0 0 (MQ below (QcM D cy ad A n0 S' (some (.int r))) args s 0 0 A) (F0 m 124 ls []) := by
  unfold bX4_match_124 at hF
  obtain ⟨hx, hb, -, hown, -, hts, -⟩ := id C0
  refine lv_iload hx hb dX4_match_124 (lv_at hl 4 rfl) ?_
  refine lv_iconst (v := (1 : Int32)) hx hb dX4_match_126 (by decide) ?_
  refine lv_iload hx hb dX4_match_127 (lv_at hl 2 rfl) ?_
  refine lv_ishl hx hb dX4_match_129 ?_
  refine lv_icmp_ge (tgt := 159) hx hb dX4_match_130 (by decide) (fun hc => ?_) (fun hc => ?_)
  · have hF := oi_t hc hF
    obtain ⟨v159, hv, hF⟩ := ob hF
    refine lv_iinc (v := v159) (lv' := [(5, .int v159), (0, .ref (ad x0)), (3, .int x3), (4, .int x4), (6, .int x6)]) hx hb dX4_match_159 hl (k := 3) rfl (by rw [← vtI hv]; rfl) (by decide) rfl (fun ls hl => ?_)
    refine lv_goto (tgt := 116) hx hb dX4_match_162 (by decide) ?_
    exact Kh3 _ _ _ _ _ (Option.some.inj hF).symm _ _ _ M (lv_sub hl [1, 2, 3, 0] rfl)
  · have hF := oi_f hc hF
    refine lv_aload_n hx hb dX4_match_133 rfl (lv_at hl 0 rfl) ?_
    obtain ⟨v134, hv, hF⟩ := ob hF
    refine k_getP C0 M.1 hv fl_X4_16 dX4_match_134 ?_
    refine lv_iload hx hb dX4_match_137 (lv_at hl 3 rfl) ?_
    obtain ⟨v139, hv, hF⟩ := ob hF
    refine k_ldP (ty := (.array .int)) 4 C0 M.1 (by decide) rfl rfl hv dX4_match_139 ?_
    refine lv_iload hx hb dX4_match_140 (lv_at hl 4 rfl) ?_
    refine lv_aload_n hx hb dX4_match_142 rfl (lv_at hl 0 rfl) ?_
    refine lv_iload hx hb dX4_match_143 (lv_at hl 3 rfl) ?_
    refine lv_iload hx hb dX4_match_145 (lv_at hl 4 rfl) ?_
    refine lv_iload hx hb dX4_match_147 (lv_at hl 2 rfl) ?_
    obtain ⟨_, hrec, hF⟩ := ob hF
    obtain ⟨v149, hcl, hF⟩ := ob hF
    refine go_SI (r_V (rest := [.int x6, .ref (ad v139)]) (As := [.int x5, .int x6, .int x4]) C0 cb_X4_45 M.1 hrec (tX4_leastCost l D cy ad A hcl) (pre_R C0 M.1) hl dX4_match_149 rfl (Nat.le_of_ble_eq_true rfl) ⟨rfl, rfl⟩ ⟨Nat.le_of_ble_eq_true rfl, Nat.le_of_ble_eq_true rfl⟩ ⟨Nat.le_of_ble_eq_true rfl, Nat.le_of_ble_eq_true rfl⟩ rfl) ?_
    obtain ⟨S152, hv, hF⟩ := ob hF
    refine k_st C0 M hv dX4_match_152 (fun H locs M => ?_)
    obtain ⟨v153, hv, hF⟩ := ob hF
    refine lv_iinc (v := v153) (lv' := [(6, .int v153), (0, .ref (ad x0)), (3, .int x3), (4, .int x4), (5, .int x5)]) hx hb dX4_match_153 hl (k := 4) rfl (by rw [← vtI hv]; rfl) (by decide) rfl (fun ls hl => ?_)
    refine lv_goto (tgt := 124) hx hb dX4_match_156 (by decide) ?_
    exact Kh4 _ _ _ _ _ _ (Option.some.inj hF).symm _ _ _ M (lv_sub hl [1, 2, 3, 4, 0] rfl)
set_option maxHeartbeats 4000000 in
set_option maxRecDepth 100000 in
theorem tX4_match (l : Launch) (D : va_G) (cy : Nat → ClassId) (ad : Nat → Nat) (A : Nat → Prop) {S S' : MS} {a0 : Nat} {a1 : Nat} {a2 : Nat} {r : Int32} (h : fX4_match S a0 a1 a2 = some (r, S')) : Met l yX4_match [Cond.code yX4_match cX4_match 7 (some .int)] rmX4_match (PcR D cy ad A S [.ref (ad a0), .ref (ad a1), .ref (ad a2)]) (QcM D cy ad A (m_n S) S' (some (.int r))) 0 0 A := by
  refine met_M (by decide +kernel) cw_X4_match (Nat.le_of_ble_eq_true rfl) ?_
  intro p e s m args below meth c ls C0 M hr hin hl
  have hl : lv_has ls 7 [(0, .ref (ad a0)), (1, .ref (ad a1)), (2, .ref (ad a2))] := hl
  have key := lim_walk (step := sX4_match) (fun (q : ((Nat × Nat × Nat × Int32 × Int32 × Int32 × MS) ⊕ ((Nat × Nat × Nat × Int32 × Int32 × Int32 × Int32 × MS) ⊕ ((Nat × Int32 × Int32 × Int32 × MS) ⊕ ((Nat × Int32 × Int32 × Int32 × MS) ⊕ (Nat × Int32 × Int32 × Int32 × Int32 × MS)))))) (r9 : (Int32 × MS)) => ∀ (r : Int32) (S' : MS), r9 = (r, S') → ((∀ (y0 : Nat) (y1 : Nat) (y2 : Nat) (y3 : Int32) (y4 : Int32) (y5 : Int32) (S2 : MS), q = (.inl (y0, y1, y2, y3, y4, y5, S2)) → ∀ (H1 : Heap) (locs1 : List Loc) (ls1 : Array Slot), ST D cy ad A s.heap (ZN (m_n S) s.heap.size) S2 H1 locs1 → lv_has ls1 7 [(0, .ref (ad y0)), (1, .ref (ad y1)), (2, .ref (ad y2)), (3, .int y3), (4, .int y4), (5, .int y5)] → W p l e rmX4_match s m args below meth c H1 locs1 0 0 (MQ below (QcM D cy ad A (m_n S) S' (some (.int r))) args s 0 0 A) (F0 m 14 ls1 [])) ∧ (∀ (y0 : Nat) (y1 : Nat) (y2 : Nat) (y3 : Int32) (y4 : Int32) (y5 : Int32) (y6 : Int32) (S2 : MS), q = (.inr (.inl (y0, y1, y2, y3, y4, y5, y6, S2))) → ∀ (H1 : Heap) (locs1 : List Loc) (ls1 : Array Slot), ST D cy ad A s.heap (ZN (m_n S) s.heap.size) S2 H1 locs1 → lv_has ls1 7 [(0, .ref (ad y0)), (1, .ref (ad y1)), (2, .ref (ad y2)), (3, .int y3), (4, .int y4), (5, .int y5), (6, .int y6)] → W p l e rmX4_match s m args below meth c H1 locs1 0 0 (MQ below (QcM D cy ad A (m_n S) S' (some (.int r))) args s 0 0 A) (F0 m 23 ls1 [])) ∧ (∀ (y0 : Nat) (y1 : Int32) (y2 : Int32) (y3 : Int32) (S2 : MS), q = (.inr (.inr (.inl (y0, y1, y2, y3, S2)))) → ∀ (H1 : Heap) (locs1 : List Loc) (ls1 : Array Slot), ST D cy ad A s.heap (ZN (m_n S) s.heap.size) S2 H1 locs1 → lv_has ls1 7 [(0, .ref (ad y0)), (3, .int y1), (4, .int y2), (5, .int y3)] → W p l e rmX4_match s m args below meth c H1 locs1 0 0 (MQ below (QcM D cy ad A (m_n S) S' (some (.int r))) args s 0 0 A) (F0 m 76 ls1 [])) ∧ (∀ (y0 : Nat) (y1 : Int32) (y2 : Int32) (y3 : Int32) (S2 : MS), q = (.inr (.inr (.inr (.inl (y0, y1, y2, y3, S2))))) → ∀ (H1 : Heap) (locs1 : List Loc) (ls1 : Array Slot), ST D cy ad A s.heap (ZN (m_n S) s.heap.size) S2 H1 locs1 → lv_has ls1 7 [(0, .ref (ad y0)), (3, .int y1), (4, .int y2), (5, .int y3)] → W p l e rmX4_match s m args below meth c H1 locs1 0 0 (MQ below (QcM D cy ad A (m_n S) S' (some (.int r))) args s 0 0 A) (F0 m 116 ls1 [])) ∧ (∀ (y0 : Nat) (y1 : Int32) (y2 : Int32) (y3 : Int32) (y4 : Int32) (S2 : MS), q = (.inr (.inr (.inr (.inr (y0, y1, y2, y3, y4, S2))))) → ∀ (H1 : Heap) (locs1 : List Loc) (ls1 : Array Slot), ST D cy ad A s.heap (ZN (m_n S) s.heap.size) S2 H1 locs1 → lv_has ls1 7 [(0, .ref (ad y0)), (3, .int y1), (4, .int y2), (5, .int y3), (6, .int y4)] → W p l e rmX4_match s m args below meth c H1 locs1 0 0 (MQ below (QcM D cy ad A (m_n S) S' (some (.int r))) args s 0 0 A) (F0 m 124 ls1 [])))) ?_
  · unfold fX4_match at h
    cases hs0 : bX4_match_0 S a0 a1 a2 with
    | none => rw [hs0] at h; cases h
    | some out =>
      rw [hs0] at h
      refine wX4_match_0 ad A C0 M hr hs0 hl (fun r9 hr9 => ?_) ?_ ?_ ?_ ?_ ?_
      · subst hr9; exact Option.some.inj h
      · intro y0 y1 y2 y3 y4 y5 y6 hq; subst hq; exact (key _ _ h _ _ rfl).1 _ _ _ _ _ _ _ rfl
      · intro y0 y1 y2 y3 y4 y5 y6 y7 hq; subst hq; exact (key _ _ h _ _ rfl).2.1 _ _ _ _ _ _ _ _ rfl
      · intro y0 y1 y2 y3 y4 hq; subst hq; exact (key _ _ h _ _ rfl).2.2.1 _ _ _ _ _ rfl
      · intro y0 y1 y2 y3 y4 hq; subst hq; exact (key _ _ h _ _ rfl).2.2.2.1 _ _ _ _ _ rfl
      · intro y0 y1 y2 y3 y4 y5 hq; subst hq; exact (key _ _ h _ _ rfl).2.2.2.2 _ _ _ _ _ _ rfl
  · intro q r9 out hst hre hin9
    intro r S' er; subst er
    refine ⟨?_, ?_, ?_, ?_, ?_⟩
    · intro y0 y1 y2 y3 y4 y5 y6 hq H1 locs1 ls1 M hl
      subst hq
      exact wX4_match_14 ad A C0 M hr hst hl hre (fun k0 k1 k2 k3 k4 k5 k6 hk => (hin9 _ hk _ _ rfl).1 _ _ _ _ _ _ _ rfl) (fun k0 k1 k2 k3 k4 k5 k6 k7 hk => (hin9 _ hk _ _ rfl).2.1 _ _ _ _ _ _ _ _ rfl) (fun k0 k1 k2 k3 k4 hk => (hin9 _ hk _ _ rfl).2.2.1 _ _ _ _ _ rfl) (fun k0 k1 k2 k3 k4 hk => (hin9 _ hk _ _ rfl).2.2.2.1 _ _ _ _ _ rfl) (fun k0 k1 k2 k3 k4 k5 hk => (hin9 _ hk _ _ rfl).2.2.2.2 _ _ _ _ _ _ rfl)
    · intro y0 y1 y2 y3 y4 y5 y6 y7 hq H1 locs1 ls1 M hl
      subst hq
      exact wX4_match_23 ad A C0 M hr hst hl hre (fun k0 k1 k2 k3 k4 k5 k6 hk => (hin9 _ hk _ _ rfl).1 _ _ _ _ _ _ _ rfl) (fun k0 k1 k2 k3 k4 k5 k6 k7 hk => (hin9 _ hk _ _ rfl).2.1 _ _ _ _ _ _ _ _ rfl) (fun k0 k1 k2 k3 k4 hk => (hin9 _ hk _ _ rfl).2.2.1 _ _ _ _ _ rfl) (fun k0 k1 k2 k3 k4 hk => (hin9 _ hk _ _ rfl).2.2.2.1 _ _ _ _ _ rfl) (fun k0 k1 k2 k3 k4 k5 hk => (hin9 _ hk _ _ rfl).2.2.2.2 _ _ _ _ _ _ rfl)
    · intro y0 y1 y2 y3 y4 hq H1 locs1 ls1 M hl
      subst hq
      exact wX4_match_76 ad A C0 M hr hst hl hre (fun k0 k1 k2 k3 k4 k5 k6 hk => (hin9 _ hk _ _ rfl).1 _ _ _ _ _ _ _ rfl) (fun k0 k1 k2 k3 k4 k5 k6 k7 hk => (hin9 _ hk _ _ rfl).2.1 _ _ _ _ _ _ _ _ rfl) (fun k0 k1 k2 k3 k4 hk => (hin9 _ hk _ _ rfl).2.2.1 _ _ _ _ _ rfl) (fun k0 k1 k2 k3 k4 hk => (hin9 _ hk _ _ rfl).2.2.2.1 _ _ _ _ _ rfl) (fun k0 k1 k2 k3 k4 k5 hk => (hin9 _ hk _ _ rfl).2.2.2.2 _ _ _ _ _ _ rfl)
    · intro y0 y1 y2 y3 y4 hq H1 locs1 ls1 M hl
      subst hq
      exact wX4_match_116 ad A C0 M hr hst hl hre (fun k0 k1 k2 k3 k4 k5 k6 hk => (hin9 _ hk _ _ rfl).1 _ _ _ _ _ _ _ rfl) (fun k0 k1 k2 k3 k4 k5 k6 k7 hk => (hin9 _ hk _ _ rfl).2.1 _ _ _ _ _ _ _ _ rfl) (fun k0 k1 k2 k3 k4 hk => (hin9 _ hk _ _ rfl).2.2.1 _ _ _ _ _ rfl) (fun k0 k1 k2 k3 k4 hk => (hin9 _ hk _ _ rfl).2.2.2.1 _ _ _ _ _ rfl) (fun k0 k1 k2 k3 k4 k5 hk => (hin9 _ hk _ _ rfl).2.2.2.2 _ _ _ _ _ _ rfl)
    · intro y0 y1 y2 y3 y4 y5 hq H1 locs1 ls1 M hl
      subst hq
      exact wX4_match_124 ad A C0 M hr hst hl hre (fun k0 k1 k2 k3 k4 k5 k6 hk => (hin9 _ hk _ _ rfl).1 _ _ _ _ _ _ _ rfl) (fun k0 k1 k2 k3 k4 k5 k6 k7 hk => (hin9 _ hk _ _ rfl).2.1 _ _ _ _ _ _ _ _ rfl) (fun k0 k1 k2 k3 k4 hk => (hin9 _ hk _ _ rfl).2.2.1 _ _ _ _ _ rfl) (fun k0 k1 k2 k3 k4 hk => (hin9 _ hk _ _ rfl).2.2.2.1 _ _ _ _ _ rfl) (fun k0 k1 k2 k3 k4 k5 hk => (hin9 _ hk _ _ rfl).2.2.2.2 _ _ _ _ _ _ rfl)
set_option maxHeartbeats 4000000 in
set_option maxRecDepth 100000 in
theorem wX9_partnerOf_0 {p : Program} {l : Launch} {e : Env} {s : State} {m : MethodId} {args : Array Value} {below : List Frame} {meth : Method} {c : Code} {D : va_G} {cy : Nat → ClassId} (ad : Nat → Nat) (A : Nat → Prop) {S : MS} {S' : MS} {H : Heap} {locs : List Loc} {n0 : Nat} {r : Int32} {out : ((Nat × Int32 × Int32 × MS) ⊕ (Int32 × MS))} {ls : Array Slot} {x0 : Nat} {x1 : Int32} {x2 : Int32} (C0 : CX p s m args meth c RX9 cX9_partnerOf 4 D cy) (M : ST D cy ad A s.heap (ZN n0 s.heap.size) S H locs) (hr : meth.sig.returnType = some .int) (hF : bX9_partnerOf_0 S x0 x1 x2 = some out) (hl : lv_has ls 4 [(0, .ref (ad x0)), (1, .int x1), (2, .int x2)]) (Kr : ∀ r9, out = .inr r9 → r9 = (r, S')) (Kh0 : ∀ (y0 : Nat) (y1 : Int32) (y2 : Int32) (S2 : MS), out = .inl (y0, y1, y2, S2) → ∀ (H1 : Heap) (locs1 : List Loc) (ls1 : Array Slot), ST D cy ad A s.heap (ZN n0 s.heap.size) S2 H1 locs1 → lv_has ls1 4 [(0, .ref (ad y0)), (2, .int y1), (3, .int y2)] → W p l e rmX9_partnerOf s m args below meth c H1 locs1 0 0 (MQ below (QcM D cy ad A n0 S' (some (.int r))) args s 0 0 A) (F0 m 32 ls1 [])) : W p l e rmX9_partnerOf s m args below meth c H locs 0 0 (MQ below (QcM D cy ad A n0 S' (some (.int r))) args s 0 0 A) (F0 m 0 ls []) := by
  unfold bX9_partnerOf_0 at hF
  obtain ⟨hx, hb, -, hown, -, hts, -⟩ := id C0
  refine lv_aload_n hx hb dX9_partnerOf_0 rfl (lv_at hl 0 rfl) ?_
  obtain ⟨v1, hv, hF⟩ := ob hF
  refine k_getP C0 M.1 hv fl_X9_49 dX9_partnerOf_1 ?_
  refine lv_aload_n hx hb dX9_partnerOf_4 rfl (lv_at hl 0 rfl) ?_
  obtain ⟨v5, hv, hF⟩ := ob hF
  refine k_getP C0 M.1 hv fl_X9_32 dX9_partnerOf_5 ?_
  refine lv_aload_n hx hb dX9_partnerOf_8 rfl (lv_at hl 0 rfl) ?_
  obtain ⟨v9, hv, hF⟩ := ob hF
  refine k_getP C0 M.1 hv fl_X9_36 dX9_partnerOf_9 ?_
  obtain ⟨_, hrec, hF⟩ := ob hF
  obtain ⟨v12, S12, hcl, hF⟩ := ob2 hF
  refine go_MI (r_V (rest := []) (As := [.ref (ad v5), .ref (ad v9)]) C0 cb_X9_287 M.1 hrec (tX4_match l D cy ad A hcl) (pre_R C0 M.1) hl dX9_partnerOf_12 rfl (Nat.le_of_ble_eq_true rfl) ⟨rfl, rfl⟩ ⟨Nat.le_of_ble_eq_true rfl, Nat.le_of_ble_eq_true rfl⟩ ⟨Nat.le_of_ble_eq_true rfl, Nat.le_of_ble_eq_true rfl⟩ rfl) M (fun H locs M => ?_)
  refine lv_pop hx hb dX9_partnerOf_15 rfl ?_
  refine lv_iload_n hx hb dX9_partnerOf_16 rfl (lv_at hl 1 rfl) ?_
  refine lv_if_ne (tgt := 30) hx hb dX9_partnerOf_17 (by decide) (fun hc => ?_) (fun hc => ?_)
  · have hF := oi_f hc hF
    refine lv_iconst (v := (0 : Int32)) hx hb dX9_partnerOf_30 (by decide) ?_
    refine lv_istore_n (lv' := [(3, .int (0 : Int32)), (0, .ref (ad x0)), (1, .int x1), (2, .int x2)]) hx hb dX9_partnerOf_31 rfl hl (by decide) rfl (fun ls hl => ?_)
    exact Kh0 _ _ _ _ (Option.some.inj hF).symm _ _ _ M (lv_sub hl [1, 3, 0] rfl)
  · have hF := oi_t hc hF
    refine lv_aload_n hx hb dX9_partnerOf_20 rfl (lv_at hl 0 rfl) ?_
    obtain ⟨v21, hv, hF⟩ := ob hF
    refine k_getP C0 M.1 hv fl_X9_49 dX9_partnerOf_21 ?_
    obtain ⟨v24, hv, hF⟩ := ob hF
    refine k_getP C0 M.1 hv fl_X9_382 dX9_partnerOf_24 ?_
    refine lv_iload_n hx hb dX9_partnerOf_27 rfl (lv_at hl 2 rfl) ?_
    obtain ⟨v28, hv, hF⟩ := ob hF
    refine k_ld C0 M.1 hv dX9_partnerOf_28 ?_
    obtain ⟨rfl, rfl⟩ := Prod.mk.inj (Kr _ (Option.some.inj hF).symm)
    exact rt_MI C0 M hr dX9_partnerOf_29
set_option maxHeartbeats 4000000 in
set_option maxRecDepth 100000 in
theorem wX9_partnerOf_32 {p : Program} {l : Launch} {e : Env} {s : State} {m : MethodId} {args : Array Value} {below : List Frame} {meth : Method} {c : Code} {D : va_G} {cy : Nat → ClassId} (ad : Nat → Nat) (A : Nat → Prop) {S : MS} {S' : MS} {H : Heap} {locs : List Loc} {n0 : Nat} {r : Int32} {out : ((Nat × Int32 × Int32 × MS) ⊕ (Int32 × MS))} {ls : Array Slot} {x0 : Nat} {x2 : Int32} {x3 : Int32} (C0 : CX p s m args meth c RX9 cX9_partnerOf 4 D cy) (M : ST D cy ad A s.heap (ZN n0 s.heap.size) S H locs) (hr : meth.sig.returnType = some .int) (hF : bX9_partnerOf_32 S x0 x2 x3 = some out) (hl : lv_has ls 4 [(0, .ref (ad x0)), (2, .int x2), (3, .int x3)]) (Kr : ∀ r9, out = .inr r9 → r9 = (r, S')) (Kh0 : ∀ (y0 : Nat) (y1 : Int32) (y2 : Int32) (S2 : MS), out = .inl (y0, y1, y2, S2) → ∀ (H1 : Heap) (locs1 : List Loc) (ls1 : Array Slot), ST D cy ad A s.heap (ZN n0 s.heap.size) S2 H1 locs1 → lv_has ls1 4 [(0, .ref (ad y0)), (2, .int y1), (3, .int y2)] → W p l e rmX9_partnerOf s m args below meth c H1 locs1 0 0 (MQ below (QcM D cy ad A n0 S' (some (.int r))) args s 0 0 A) (F0 m 32 ls1 [])) : W p l e rmX9_partnerOf s m args below meth c H locs 0 0 (MQ below (QcM D cy ad A n0 S' (some (.int r))) args s 0 0 A) (F0 m 32 ls []) := by
  unfold bX9_partnerOf_32 at hF
  obtain ⟨hx, hb, -, hown, -, hts, -⟩ := id C0
  refine lv_iload_n hx hb dX9_partnerOf_32 rfl (lv_at hl 2 rfl) ?_
  refine lv_aload_n hx hb dX9_partnerOf_33 rfl (lv_at hl 0 rfl) ?_
  obtain ⟨v34, hv, hF⟩ := ob hF
  refine k_getP C0 M.1 hv fl_X9_32 dX9_partnerOf_34 ?_
  obtain ⟨_, hrec, hF⟩ := ob hF
  obtain ⟨v37, hcl, hF⟩ := ob hF
  refine go_SI (r_V (rest := [.int x3]) (As := []) C0 cb_X9_93 M.1 hrec (tJx4a65c_size_8abf5 l D cy ad A hcl) (pre_R C0 M.1) hl dX9_partnerOf_37 rfl (Nat.le_of_ble_eq_true rfl) ⟨rfl, rfl⟩ ⟨Nat.le_of_ble_eq_true rfl, Nat.le_of_ble_eq_true rfl⟩ ⟨Nat.le_of_ble_eq_true rfl, Nat.le_of_ble_eq_true rfl⟩ rfl) ?_
  refine lv_icmp_ge (tgt := 64) hx hb dX9_partnerOf_40 (by decide) (fun hc => ?_) (fun hc => ?_)
  · have hF := oi_t hc hF
    refine lv_bipush (v := (-9 : Int32)) hx hb dX9_partnerOf_64 (by decide) ?_
    obtain ⟨rfl, rfl⟩ := Prod.mk.inj (Kr _ (Option.some.inj hF).symm)
    exact rt_MI C0 M hr dX9_partnerOf_66
  · have hF := oi_f hc hF
    refine lv_aload_n hx hb dX9_partnerOf_43 rfl (lv_at hl 0 rfl) ?_
    obtain ⟨v44, hv, hF⟩ := ob hF
    refine k_getP C0 M.1 hv fl_X9_49 dX9_partnerOf_44 ?_
    obtain ⟨v47, hv, hF⟩ := ob hF
    refine k_getP C0 M.1 hv fl_X9_382 dX9_partnerOf_47 ?_
    refine lv_iload_n hx hb dX9_partnerOf_50 rfl (lv_at hl 2 rfl) ?_
    obtain ⟨v51, hv, hF⟩ := ob hF
    refine k_ld C0 M.1 hv dX9_partnerOf_51 ?_
    refine lv_iload_n hx hb dX9_partnerOf_52 rfl (lv_at hl 1 rfl) ?_
    refine lv_icmp_ne (tgt := 58) hx hb dX9_partnerOf_53 (by decide) (fun hc => ?_) (fun hc => ?_)
    · have hF := oi_f hc hF
      obtain ⟨v58, hv, hF⟩ := ob hF
      refine lv_iinc (v := v58) (lv' := [(3, .int v58), (0, .ref (ad x0)), (2, .int x2)]) hx hb dX9_partnerOf_58 hl (k := 2) rfl (by rw [← vtI hv]; rfl) (by decide) rfl (fun ls hl => ?_)
      refine lv_goto (tgt := 32) hx hb dX9_partnerOf_61 (by decide) ?_
      exact Kh0 _ _ _ _ (Option.some.inj hF).symm _ _ _ M (lv_sub hl [1, 2, 0] rfl)
    · have hF := oi_t hc hF
      refine lv_iload_n hx hb dX9_partnerOf_56 rfl (lv_at hl 2 rfl) ?_
      obtain ⟨rfl, rfl⟩ := Prod.mk.inj (Kr _ (Option.some.inj hF).symm)
      exact rt_MI C0 M hr dX9_partnerOf_57
set_option maxHeartbeats 4000000 in
set_option maxRecDepth 100000 in
theorem tX9_partnerOf (l : Launch) (D : va_G) (cy : Nat → ClassId) (ad : Nat → Nat) (A : Nat → Prop) {S S' : MS} {a0 : Nat} {a1 : Int32} {a2 : Int32} {r : Int32} (h : fX9_partnerOf S a0 a1 a2 = some (r, S')) : Met l yX9_partnerOf [Cond.code yX9_partnerOf cX9_partnerOf 4 (some .int)] rmX9_partnerOf (PcR D cy ad A S [.ref (ad a0), .int a1, .int a2]) (QcM D cy ad A (m_n S) S' (some (.int r))) 0 0 A := by
  refine met_M (by decide +kernel) cw_X9_partnerOf (Nat.le_of_ble_eq_true rfl) ?_
  intro p e s m args below meth c ls C0 M hr hin hl
  have hl : lv_has ls 4 [(0, .ref (ad a0)), (1, .int a1), (2, .int a2)] := hl
  have key := lim_walk (step := sX9_partnerOf) (fun (q : (Nat × Int32 × Int32 × MS)) (r9 : (Int32 × MS)) => ∀ (r : Int32) (S' : MS), r9 = (r, S') → ((∀ (y0 : Nat) (y1 : Int32) (y2 : Int32) (S2 : MS), q = (y0, y1, y2, S2) → ∀ (H1 : Heap) (locs1 : List Loc) (ls1 : Array Slot), ST D cy ad A s.heap (ZN (m_n S) s.heap.size) S2 H1 locs1 → lv_has ls1 4 [(0, .ref (ad y0)), (2, .int y1), (3, .int y2)] → W p l e rmX9_partnerOf s m args below meth c H1 locs1 0 0 (MQ below (QcM D cy ad A (m_n S) S' (some (.int r))) args s 0 0 A) (F0 m 32 ls1 [])))) ?_
  · unfold fX9_partnerOf at h
    cases hs0 : bX9_partnerOf_0 S a0 a1 a2 with
    | none => rw [hs0] at h; cases h
    | some out =>
      rw [hs0] at h
      refine wX9_partnerOf_0 ad A C0 M hr hs0 hl (fun r9 hr9 => ?_) ?_
      · subst hr9; exact Option.some.inj h
      · intro y0 y1 y2 y3 hq; subst hq; exact (key _ _ h _ _ rfl) _ _ _ _ rfl
  · intro q r9 out hst hre hin9
    intro r S' er; subst er
    refine ?_
    · intro y0 y1 y2 y3 hq H1 locs1 ls1 M hl
      subst hq
      exact wX9_partnerOf_32 ad A C0 M hr hst hl hre (fun k0 k1 k2 k3 hk => (hin9 _ hk _ _ rfl) _ _ _ _ rfl)
set_option maxHeartbeats 4000000 in
set_option maxRecDepth 100000 in
theorem wX9_front_0 {p : Program} {l : Launch} {e : Env} {s : State} {m : MethodId} {args : Array Value} {below : List Frame} {meth : Method} {c : Code} {D : va_G} {cy : Nat → ClassId} (ad : Nat → Nat) (A : Nat → Prop) {S : MS} {S' : MS} {H : Heap} {locs : List Loc} {n0 : Nat} {r : Int32} {ls : Array Slot} {x0 : Nat} {x1 : Int32} {x2 : Int32} {x3 : Int32} (C0 : CX p s m args meth c RX9 cX9_front 5 D cy) (M : ST D cy ad A s.heap (ZN n0 s.heap.size) S H locs) (hr : meth.sig.returnType = some .int) (hF : bX9_front_0 S x0 x1 x2 x3 = some (r, S')) (hl : lv_has ls 5 [(0, .ref (ad x0)), (1, .int x1), (2, .int x2), (3, .int x3)]) : W p l e rmX9_front s m args below meth c H locs 0 0 (MQ below (QcM D cy ad A n0 S' (some (.int r))) args s 0 0 A) (F0 m 0 ls []) := by
  unfold bX9_front_0 at hF
  obtain ⟨hx, hb, -, hown, -, hts, -⟩ := id C0
  refine lv_iload_n hx hb dX9_front_0 rfl (lv_at hl 1 rfl) ?_
  refine lv_iconst (v := (2 : Int32)) hx hb dX9_front_1 (by decide) ?_
  obtain ⟨v2, hcl, hF⟩ := ob hF
  refine go_SI (r_S (rest := []) (As := [.int x1, .int (2 : Int32)]) C0 cb_X9_79 (tX9_isBelow l D cy ad hcl) (pre_S C0) hl dX9_front_2 rfl (Nat.le_of_ble_eq_true rfl) ⟨rfl, rfl⟩ ⟨Nat.le_of_ble_eq_true rfl, Nat.le_of_ble_eq_true rfl⟩ ⟨Nat.le_of_ble_eq_true rfl, Nat.le_of_ble_eq_true rfl⟩ rfl) ?_
  refine lv_if_ne (tgt := 11) hx hb dX9_front_5 (by decide) (fun hc => ?_) (fun hc => ?_)
  · have hF := oi_f hc hF
    refine lv_iload_n hx hb dX9_front_11 rfl (lv_at hl 2 rfl) ?_
    refine lv_aload_n hx hb dX9_front_12 rfl (lv_at hl 0 rfl) ?_
    refine lv_iload_n hx hb dX9_front_13 rfl (lv_at hl 1 rfl) ?_
    obtain ⟨_, hrec, hF⟩ := ob hF
    obtain ⟨v14, hcl, hF⟩ := ob hF
    refine go_SP (r_V (rest := [.int x2]) (As := [.int x1]) C0 cb_X9_261 M.1 hrec (tX9_frontsOf l D cy ad A hcl) (pre_R C0 M.1) hl dX9_front_14 rfl (Nat.le_of_ble_eq_true rfl) ⟨rfl, rfl⟩ ⟨Nat.le_of_ble_eq_true rfl, Nat.le_of_ble_eq_true rfl⟩ ⟨Nat.le_of_ble_eq_true rfl, Nat.le_of_ble_eq_true rfl⟩ rfl) ?_
    obtain ⟨_, hrec, hF⟩ := ob hF
    obtain ⟨v17, hcl, hF⟩ := ob hF
    refine go_SI (r_V (rest := [.int x2]) (As := []) C0 cb_X9_93 M.1 hrec (tJx4a65c_size_8abf5 l D cy ad A hcl) (pre_R C0 M.1) hl dX9_front_17 rfl (Nat.le_of_ble_eq_true rfl) ⟨rfl, rfl⟩ ⟨Nat.le_of_ble_eq_true rfl, Nat.le_of_ble_eq_true rfl⟩ ⟨Nat.le_of_ble_eq_true rfl, Nat.le_of_ble_eq_true rfl⟩ rfl) ?_
    obtain ⟨v20, hcl, hF⟩ := ob hF
    refine go_SI (r_S (rest := []) (As := [.int x2, .int v17]) C0 cb_X9_79 (tX9_isBelow l D cy ad hcl) (pre_S C0) hl dX9_front_20 rfl (Nat.le_of_ble_eq_true rfl) ⟨rfl, rfl⟩ ⟨Nat.le_of_ble_eq_true rfl, Nat.le_of_ble_eq_true rfl⟩ ⟨Nat.le_of_ble_eq_true rfl, Nat.le_of_ble_eq_true rfl⟩ rfl) ?_
    refine lv_if_ne (tgt := 28) hx hb dX9_front_23 (by decide) (fun hc => ?_) (fun hc => ?_)
    · have hF := oi_f hc hF
      refine lv_aload_n hx hb dX9_front_28 rfl (lv_at hl 0 rfl) ?_
      refine lv_iload_n hx hb dX9_front_29 rfl (lv_at hl 1 rfl) ?_
      obtain ⟨_, hrec, hF⟩ := ob hF
      obtain ⟨v30, hcl, hF⟩ := ob hF
      refine go_SP (r_V (rest := []) (As := [.int x1]) C0 cb_X9_261 M.1 hrec (tX9_frontsOf l D cy ad A hcl) (pre_R C0 M.1) hl dX9_front_30 rfl (Nat.le_of_ble_eq_true rfl) ⟨rfl, rfl⟩ ⟨Nat.le_of_ble_eq_true rfl, Nat.le_of_ble_eq_true rfl⟩ ⟨Nat.le_of_ble_eq_true rfl, Nat.le_of_ble_eq_true rfl⟩ rfl) ?_
      refine lv_iload_n hx hb dX9_front_33 rfl (lv_at hl 2 rfl) ?_
      obtain ⟨_, hrec, hF⟩ := ob hF
      obtain ⟨v34, hcl, hF⟩ := ob hF
      refine go_SP (r_V (rest := []) (As := [.int x2]) C0 cb_X9_113 M.1 hrec (tJx4a65c_get_915e3 l D cy ad A hcl) (pre_R C0 M.1) hl dX9_front_34 rfl (Nat.le_of_ble_eq_true rfl) ⟨rfl, rfl⟩ ⟨Nat.le_of_ble_eq_true rfl, Nat.le_of_ble_eq_true rfl⟩ ⟨Nat.le_of_ble_eq_true rfl, Nat.le_of_ble_eq_true rfl⟩ rfl) ?_
      obtain ⟨v37, hv, hF⟩ := ob hF
      refine k_cast (C := RX3) (T := TX3) (N := 5) C0 M.1 hv (by decide) rfl (uw_of 831 (by decide +kernel) rfl) dX9_front_37 ?_
      refine lv_astore (lv' := [(4, .ref (ad v37)), (0, .ref (ad x0)), (1, .int x1), (2, .int x2), (3, .int x3)]) hx hb dX9_front_40 hl (by decide) rfl (fun ls hl => ?_)
      refine lv_iload_n hx hb dX9_front_42 rfl (lv_at hl 4 rfl) ?_
      by_cases hc0 : x3 = (0 : Int32)
      · have hF := oi_t hc0 hF
        refine lv_tableIn (tgt := 76) (off := 33) hx hb dX9_front_43 (by rw [hc0]; decide) (by rw [hc0]; decide) (by rw [hc0]; rfl) (by decide) ?_
        refine lv_aload hx hb dX9_front_76 (lv_at hl 0 rfl) ?_
        obtain ⟨v78, hv, hF⟩ := ob hF
        refine k_getI C0 M.1 hv fl_X9_271 dX9_front_78 ?_
        obtain ⟨rfl, rfl⟩ := Prod.mk.inj (Option.some.inj hF)
        exact rt_MI C0 M hr dX9_front_81
      have hF := oi_f hc0 hF
      by_cases hc1 : x3 = (1 : Int32)
      · have hF := oi_t hc1 hF
        refine lv_tableIn (tgt := 82) (off := 39) hx hb dX9_front_43 (by rw [hc1]; decide) (by rw [hc1]; decide) (by rw [hc1]; rfl) (by decide) ?_
        refine lv_aload hx hb dX9_front_82 (lv_at hl 0 rfl) ?_
        obtain ⟨v84, hv, hF⟩ := ob hF
        refine k_getI C0 M.1 hv fl_X9_272 dX9_front_84 ?_
        obtain ⟨rfl, rfl⟩ := Prod.mk.inj (Option.some.inj hF)
        exact rt_MI C0 M hr dX9_front_87
      have hF := oi_f hc1 hF
      by_cases hc2 : x3 = (2 : Int32)
      · have hF := oi_t hc2 hF
        refine lv_tableIn (tgt := 88) (off := 45) hx hb dX9_front_43 (by rw [hc2]; decide) (by rw [hc2]; decide) (by rw [hc2]; rfl) (by decide) ?_
        refine lv_aload hx hb dX9_front_88 (lv_at hl 0 rfl) ?_
        obtain ⟨v90, hv, hF⟩ := ob hF
        refine k_getI C0 M.1 hv fl_X9_275 dX9_front_90 ?_
        obtain ⟨rfl, rfl⟩ := Prod.mk.inj (Option.some.inj hF)
        exact rt_MI C0 M hr dX9_front_93
      have hF := oi_f hc2 hF
      by_cases hc3 : x3 = (3 : Int32)
      · have hF := oi_t hc3 hF
        refine lv_tableIn (tgt := 94) (off := 51) hx hb dX9_front_43 (by rw [hc3]; decide) (by rw [hc3]; decide) (by rw [hc3]; rfl) (by decide) ?_
        refine lv_aload hx hb dX9_front_94 (lv_at hl 0 rfl) ?_
        obtain ⟨v96, hv, hF⟩ := ob hF
        refine k_getI C0 M.1 hv fl_X9_278 dX9_front_96 ?_
        obtain ⟨rfl, rfl⟩ := Prod.mk.inj (Option.some.inj hF)
        exact rt_MI C0 M hr dX9_front_99
      have hF := oi_f hc3 hF
      by_cases hc4 : x3 = (4 : Int32)
      · have hF := oi_t hc4 hF
        refine lv_tableIn (tgt := 100) (off := 57) hx hb dX9_front_43 (by rw [hc4]; decide) (by rw [hc4]; decide) (by rw [hc4]; rfl) (by decide) ?_
        refine lv_aload_n hx hb dX9_front_100 rfl (lv_at hl 1 rfl) ?_
        refine lv_iload_n hx hb dX9_front_101 rfl (lv_at hl 2 rfl) ?_
        refine lv_iload_n hx hb dX9_front_102 rfl (lv_at hl 3 rfl) ?_
        obtain ⟨_, hrec, hF⟩ := ob hF
        obtain ⟨v103, S103, hcl, hF⟩ := ob2 hF
        refine go_MI (r_V (rest := []) (As := [.int x1, .int x2]) C0 cb_X9_281 M.1 hrec (tX9_partnerOf l D cy ad A hcl) (pre_R C0 M.1) hl dX9_front_103 rfl (Nat.le_of_ble_eq_true rfl) ⟨rfl, rfl⟩ ⟨Nat.le_of_ble_eq_true rfl, Nat.le_of_ble_eq_true rfl⟩ ⟨Nat.le_of_ble_eq_true rfl, Nat.le_of_ble_eq_true rfl⟩ rfl) M (fun H locs M => ?_)
        obtain ⟨rfl, rfl⟩ := Prod.mk.inj (Option.some.inj hF)
        exact rt_MI C0 M hr dX9_front_106
      have hF := oi_f hc4 hF
      refine lv_tableOut (tgt := 107) hx hb dX9_front_43 (tsw (x := x3) (n := 5) (by decide) (fun k hk => by rcases (show k = 0 ∨ k = 1 ∨ k = 2 ∨ k = 3 ∨ k = 4 by omega) with rfl | rfl | rfl | rfl | rfl <;> first | exact hc0 | exact hc1 | exact hc2 | exact hc3 | exact hc4)) (by decide) ?_
      refine lv_bipush (v := (-2 : Int32)) hx hb dX9_front_107 (by decide) ?_
      obtain ⟨rfl, rfl⟩ := Prod.mk.inj (Option.some.inj hF)
      exact rt_MI C0 M hr dX9_front_109
    · have hF := oi_t hc hF
      refine lv_iconst (v := (-1 : Int32)) hx hb dX9_front_26 (by decide) ?_
      obtain ⟨rfl, rfl⟩ := Prod.mk.inj (Option.some.inj hF)
      exact rt_MI C0 M hr dX9_front_27
  · have hF := oi_t hc hF
    refine lv_bipush (v := (-2 : Int32)) hx hb dX9_front_8 (by decide) ?_
    obtain ⟨rfl, rfl⟩ := Prod.mk.inj (Option.some.inj hF)
    exact rt_MI C0 M hr dX9_front_10
set_option maxHeartbeats 4000000 in
set_option maxRecDepth 100000 in
theorem tX9_front (l : Launch) (D : va_G) (cy : Nat → ClassId) (ad : Nat → Nat) (A : Nat → Prop) {S S' : MS} {a0 : Nat} {a1 : Int32} {a2 : Int32} {a3 : Int32} {r : Int32} (h : fX9_front S a0 a1 a2 a3 = some (r, S')) : Met l yX9_front [Cond.code yX9_front cX9_front 5 (some .int)] rmX9_front (PcR D cy ad A S [.ref (ad a0), .int a1, .int a2, .int a3]) (QcM D cy ad A (m_n S) S' (some (.int r))) 0 0 A := by
  refine met_M (by decide +kernel) cw_X9_front (Nat.le_of_ble_eq_true rfl) ?_
  intro p e s m args below meth c ls C0 M hr hin hl
  have hl : lv_has ls 5 [(0, .ref (ad a0)), (1, .int a1), (2, .int a2), (3, .int a3)] := hl
  exact wX9_front_0 ad A C0 M hr h hl
set_option maxHeartbeats 4000000 in
set_option maxRecDepth 100000 in
theorem wX9_guess_0 {p : Program} {l : Launch} {e : Env} {s : State} {m : MethodId} {args : Array Value} {below : List Frame} {meth : Method} {c : Code} {D : va_G} {cy : Nat → ClassId} (ad : Nat → Nat) (A : Nat → Prop) {S : MS} {r : Int32} {ls : Array Slot} {x0 : Nat} {x1 : Int32} (C0 : CX p s m args meth c RX9 cX9_guess 3 D cy) (M : MW D cy ad A S s.heap) (hr : meth.sig.returnType = some .int) (hF : bX9_guess_0 S x0 x1 = some r) (hl : lv_has ls 3 [(0, .ref (ad x0)), (1, .int x1)]) : W p l e rmX9_guess s m args below meth c s.heap [] 0 0 (MQ below (QcS (some (.int r))) args s 0 0 (fun _ => False)) (F0 m 0 ls []) := by
  unfold bX9_guess_0 at hF
  obtain ⟨hx, hb, -, hown, -, hts, -⟩ := id C0
  refine lv_aload_n hx hb dX9_guess_0 rfl (lv_at hl 0 rfl) ?_
  refine lv_iload_n hx hb dX9_guess_1 rfl (lv_at hl 1 rfl) ?_
  obtain ⟨_, hrec, hF⟩ := ob hF
  obtain ⟨v2, hcl, hF⟩ := ob hF
  refine go_SI (r_V (rest := []) (As := [.int x1]) C0 cb_X9_179 M hrec (tX9_isWire l D cy ad A hcl) (pre_R C0 M) hl dX9_guess_2 rfl (Nat.le_of_ble_eq_true rfl) ⟨rfl, rfl⟩ ⟨Nat.le_of_ble_eq_true rfl, Nat.le_of_ble_eq_true rfl⟩ ⟨Nat.le_of_ble_eq_true rfl, Nat.le_of_ble_eq_true rfl⟩ rfl) ?_
  refine lv_if_ne (tgt := 10) hx hb dX9_guess_5 (by decide) (fun hc => ?_) (fun hc => ?_)
  · have hF := oi_f hc hF
    refine lv_aload_n hx hb dX9_guess_10 rfl (lv_at hl 0 rfl) ?_
    obtain ⟨v11, hv, hF⟩ := ob hF
    refine k_getP C0 M hv fl_X9_12 dX9_guess_11 ?_
    obtain ⟨v14, hv, hF⟩ := ob hF
    refine k_getP C0 M hv fl_X9_165 dX9_guess_14 ?_
    refine lv_iload_n hx hb dX9_guess_17 rfl (lv_at hl 1 rfl) ?_
    obtain ⟨_, hrec, hF⟩ := ob hF
    obtain ⟨v18, hcl, hF⟩ := ob hF
    refine go_SP (r_V (rest := []) (As := [.int x1]) C0 cb_X9_113 M hrec (tJx4a65c_get_915e3 l D cy ad A hcl) (pre_R C0 M) hl dX9_guess_18 rfl (Nat.le_of_ble_eq_true rfl) ⟨rfl, rfl⟩ ⟨Nat.le_of_ble_eq_true rfl, Nat.le_of_ble_eq_true rfl⟩ ⟨Nat.le_of_ble_eq_true rfl, Nat.le_of_ble_eq_true rfl⟩ rfl) ?_
    obtain ⟨v21, hv, hF⟩ := ob hF
    refine k_cast (C := RX8) (T := TX8) (N := 6) C0 M hv (by decide) rfl (uw_of 603 (by decide +kernel) rfl) dX9_guess_21 ?_
    refine lv_astore_n (lv' := [(2, .ref (ad v21)), (0, .ref (ad x0)), (1, .int x1)]) hx hb dX9_guess_24 rfl hl (by decide) rfl (fun ls hl => ?_)
    refine lv_aload_n hx hb dX9_guess_25 rfl (lv_at hl 1 rfl) ?_
    obtain ⟨v26, hv, hF⟩ := ob hF
    refine k_getP C0 M hv fl_X9_12 dX9_guess_26 ?_
    obtain ⟨v29, hv, hF⟩ := ob hF
    refine k_getP C0 M hv fl_X9_213 dX9_guess_29 ?_
    refine lv_aload_n hx hb dX9_guess_32 rfl (lv_at hl 0 rfl) ?_
    obtain ⟨v33, hv, hF⟩ := ob hF
    refine k_getI C0 M hv fl_X9_182 dX9_guess_33 ?_
    obtain ⟨v36, hv, hF⟩ := ob hF
    refine k_ld C0 M hv dX9_guess_36 ?_
    refine lv_bipush (v := (-9 : Int32)) hx hb dX9_guess_37 (by decide) ?_
    refine lv_icmp_ne (tgt := 45) hx hb dX9_guess_39 (by decide) (fun hc => ?_) (fun hc => ?_)
    · have hF := oi_f hc hF
      refine lv_aload_n hx hb dX9_guess_45 rfl (lv_at hl 1 rfl) ?_
      obtain ⟨v46, hv, hF⟩ := ob hF
      refine k_getP C0 M hv fl_X9_12 dX9_guess_46 ?_
      refine lv_aload_n hx hb dX9_guess_49 rfl (lv_at hl 0 rfl) ?_
      obtain ⟨_, hrec, hF⟩ := ob hF
      obtain ⟨v50, hcl, hF⟩ := ob hF
      refine go_SI (r_V (rest := []) (As := [.ref (ad v21)]) C0 cb_X9_216 M hrec (tX1_guessFor l D cy ad A hcl) (pre_R C0 M) hl dX9_guess_50 rfl (Nat.le_of_ble_eq_true rfl) ⟨rfl, rfl⟩ ⟨Nat.le_of_ble_eq_true rfl, Nat.le_of_ble_eq_true rfl⟩ ⟨Nat.le_of_ble_eq_true rfl, Nat.le_of_ble_eq_true rfl⟩ rfl) ?_
      obtain rfl := (Option.some.inj hF)
      exact rt_SI C0 hr dX9_guess_53
    · have hF := oi_t hc hF
      refine lv_bipush (v := (-3 : Int32)) hx hb dX9_guess_42 (by decide) ?_
      obtain rfl := (Option.some.inj hF)
      exact rt_SI C0 hr dX9_guess_44
  · have hF := oi_t hc hF
    refine lv_iconst (v := (-1 : Int32)) hx hb dX9_guess_8 (by decide) ?_
    obtain rfl := (Option.some.inj hF)
    exact rt_SI C0 hr dX9_guess_9
set_option maxHeartbeats 4000000 in
set_option maxRecDepth 100000 in
theorem tX9_guess (l : Launch) (D : va_G) (cy : Nat → ClassId) (ad : Nat → Nat) (A : Nat → Prop) {S : MS} {a0 : Nat} {a1 : Int32} {r : Int32} (h : fX9_guess S a0 a1 = some r) : Met l yX9_guess [Cond.code yX9_guess cX9_guess 3 (some .int)] rmX9_guess (PcR D cy ad A S [.ref (ad a0), .int a1]) (QcS (some (.int r))) 0 0 (fun _ => False) := by
  refine met_R (by decide +kernel) cw_X9_guess (Nat.le_of_ble_eq_true rfl) ?_
  intro p e s m args below meth c ls C0 M hr hl
  have hl : lv_has ls 3 [(0, .ref (ad a0)), (1, .int a1)] := hl
  exact wX9_guess_0 ad A C0 M hr h hl
set_option maxHeartbeats 4000000 in
set_option maxRecDepth 100000 in
theorem wX9_leaveInTrace_0 {p : Program} {l : Launch} {e : Env} {s : State} {m : MethodId} {args : Array Value} {below : List Frame} {meth : Method} {c : Code} {D : va_G} {cy : Nat → ClassId} (ad : Nat → Nat) (A : Nat → Prop) {S : MS} {S' : MS} {H : Heap} {locs : List Loc} {n0 : Nat} {ls : Array Slot} {x0 : Nat} {x1 : Int32} (C0 : CX p s m args meth c RX9 cX9_leaveInTrace 2 D cy) (M : ST D cy ad A s.heap (ZN n0 s.heap.size) S H locs) (hr : meth.sig.returnType = none) (hF : bX9_leaveInTrace_0 S x0 x1 = some S') (hl : lv_has ls 2 [(0, .ref (ad x0)), (1, .int x1)]) : W p l e rmX9_leaveInTrace s m args below meth c H locs 0 0 (MQ below (QcM D cy ad A n0 S' (none)) args s 0 0 A) (F0 m 0 ls []) := by
  unfold bX9_leaveInTrace_0 at hF
  obtain ⟨hx, hb, -, hown, -, hts, -⟩ := id C0
  refine lv_aload_n hx hb dX9_leaveInTrace_0 rfl (lv_at hl 0 rfl) ?_
  refine lv_bipush (v := (31 : Int32)) hx hb dX9_leaveInTrace_1 (by decide) ?_
  refine lv_aload_n hx hb dX9_leaveInTrace_3 rfl (lv_at hl 0 rfl) ?_
  obtain ⟨v4, hv, hF⟩ := ob hF
  refine k_getI C0 M.1 hv fl_X9_72 dX9_leaveInTrace_4 ?_
  refine lv_imul hx hb dX9_leaveInTrace_7 ?_
  refine lv_iload_n hx hb dX9_leaveInTrace_8 rfl (lv_at hl 1 rfl) ?_
  refine lv_iadd hx hb dX9_leaveInTrace_9 ?_
  obtain ⟨S10, hv, hF⟩ := ob hF
  refine k_sI C0 M hv fl_X9_72 dX9_leaveInTrace_10 (fun H locs M => ?_)
  obtain rfl := (Option.some.inj hF)
  exact rt_MV C0 M hr dX9_leaveInTrace_13
set_option maxHeartbeats 4000000 in
set_option maxRecDepth 100000 in
theorem tX9_leaveInTrace (l : Launch) (D : va_G) (cy : Nat → ClassId) (ad : Nat → Nat) (A : Nat → Prop) {S S' : MS} {a0 : Nat} {a1 : Int32} (h : fX9_leaveInTrace S a0 a1 = some S') : Met l yX9_leaveInTrace [Cond.code yX9_leaveInTrace cX9_leaveInTrace 2 (none)] rmX9_leaveInTrace (PcR D cy ad A S [.ref (ad a0), .int a1]) (QcM D cy ad A (m_n S) S' (none)) 0 0 A := by
  refine met_M (by decide +kernel) cw_X9_leaveInTrace (Nat.le_of_ble_eq_true rfl) ?_
  intro p e s m args below meth c ls C0 M hr hin hl
  have hl : lv_has ls 2 [(0, .ref (ad a0)), (1, .int a1)] := hl
  exact wX9_leaveInTrace_0 ad A C0 M hr h hl
set_option maxHeartbeats 4000000 in
set_option maxRecDepth 100000 in
theorem wX9_hail_0 {p : Program} {l : Launch} {e : Env} {s : State} {m : MethodId} {args : Array Value} {below : List Frame} {meth : Method} {c : Code} {D : va_G} {cy : Nat → ClassId} (ad : Nat → Nat) (A : Nat → Prop) {S : MS} {S' : MS} {H : Heap} {locs : List Loc} {n0 : Nat} {r : Int32} {ls : Array Slot} {x0 : Nat} {x1 : Int32} (C0 : CX p s m args meth c RX9 cX9_hail 2 D cy) (M : ST D cy ad A s.heap (ZN n0 s.heap.size) S H locs) (hr : meth.sig.returnType = some .int) (hF : bX9_hail_0 S x0 x1 = some (r, S')) (hl : lv_has ls 2 [(0, .ref (ad x0)), (1, .int x1)]) : W p l e rmX9_hail s m args below meth c H locs 0 0 (MQ below (QcM D cy ad A n0 S' (some (.int r))) args s 0 0 A) (F0 m 0 ls []) := by
  unfold bX9_hail_0 at hF
  obtain ⟨hx, hb, -, hown, -, hts, -⟩ := id C0
  refine lv_aload_n hx hb dX9_hail_0 rfl (lv_at hl 0 rfl) ?_
  refine lv_iload_n hx hb dX9_hail_1 rfl (lv_at hl 1 rfl) ?_
  obtain ⟨_, hrec, hF⟩ := ob hF
  obtain ⟨v2, hcl, hF⟩ := ob hF
  refine go_SI (r_V (rest := []) (As := [.int x1]) C0 cb_X9_109 M.1 hrec (tX9_isPost l D cy ad A hcl) (pre_R C0 M.1) hl dX9_hail_2 rfl (Nat.le_of_ble_eq_true rfl) ⟨rfl, rfl⟩ ⟨Nat.le_of_ble_eq_true rfl, Nat.le_of_ble_eq_true rfl⟩ ⟨Nat.le_of_ble_eq_true rfl, Nat.le_of_ble_eq_true rfl⟩ rfl) ?_
  refine lv_if_ne (tgt := 10) hx hb dX9_hail_5 (by decide) (fun hc => ?_) (fun hc => ?_)
  · have hF := oi_f hc hF
    refine lv_aload_n hx hb dX9_hail_10 rfl (lv_at hl 0 rfl) ?_
    obtain ⟨v11, hv, hF⟩ := ob hF
    refine k_getP C0 M.1 hv fl_X9_12 dX9_hail_11 ?_
    obtain ⟨v14, hv, hF⟩ := ob hF
    refine k_getP C0 M.1 hv fl_X9_90 dX9_hail_14 ?_
    refine lv_iload_n hx hb dX9_hail_17 rfl (lv_at hl 1 rfl) ?_
    obtain ⟨_, hrec, hF⟩ := ob hF
    obtain ⟨v18, hcl, hF⟩ := ob hF
    refine go_SP (r_V (rest := []) (As := [.int x1]) C0 cb_X9_113 M.1 hrec (tJx4a65c_get_915e3 l D cy ad A hcl) (pre_R C0 M.1) hl dX9_hail_18 rfl (Nat.le_of_ble_eq_true rfl) ⟨rfl, rfl⟩ ⟨Nat.le_of_ble_eq_true rfl, Nat.le_of_ble_eq_true rfl⟩ ⟨Nat.le_of_ble_eq_true rfl, Nat.le_of_ble_eq_true rfl⟩ rfl) ?_
    obtain ⟨v21, hv, hF⟩ := ob hF
    refine k_cast (C := RX6) (T := TX6) (N := 6) C0 M.1 hv (by decide) rfl (uw_of 345 (by decide +kernel) rfl) dX9_hail_21 ?_
    obtain ⟨v24, hv, hF⟩ := ob hF
    refine k_getI C0 M.1 hv fl_X9_117 dX9_hail_24 ?_
    refine lv_iconst (v := (2 : Int32)) hx hb dX9_hail_27 (by decide) ?_
    refine lv_icmp_ne (tgt := 39) hx hb dX9_hail_28 (by decide) (fun hc => ?_) (fun hc => ?_)
    · have hF := oi_f hc hF
      refine lv_aload_n hx hb dX9_hail_39 rfl (lv_at hl 0 rfl) ?_
      refine lv_iconst (v := (4 : Int32)) hx hb dX9_hail_40 (by decide) ?_
      obtain ⟨_, hrec, hF⟩ := ob hF
      obtain ⟨S41, hcl, hF⟩ := ob hF
      refine go_MV (r_V (rest := []) (As := [.int (4 : Int32)]) C0 cb_X9_368 M.1 hrec (tX9_leaveInTrace l D cy ad A hcl) (pre_R C0 M.1) hl dX9_hail_41 rfl (Nat.le_of_ble_eq_true rfl) ⟨rfl, rfl⟩ ⟨Nat.le_of_ble_eq_true rfl, Nat.le_of_ble_eq_true rfl⟩ ⟨Nat.le_of_ble_eq_true rfl, Nat.le_of_ble_eq_true rfl⟩ rfl) M (fun H locs M => ?_)
      refine lv_iload_n hx hb dX9_hail_44 rfl (lv_at hl 1 rfl) ?_
      obtain ⟨rfl, rfl⟩ := Prod.mk.inj (Option.some.inj hF)
      exact rt_MI C0 M hr dX9_hail_45
    · have hF := oi_t hc hF
      refine lv_aload_n hx hb dX9_hail_31 rfl (lv_at hl 0 rfl) ?_
      refine lv_iconst (v := (5 : Int32)) hx hb dX9_hail_32 (by decide) ?_
      obtain ⟨_, hrec, hF⟩ := ob hF
      obtain ⟨S33, hcl, hF⟩ := ob hF
      refine go_MV (r_V (rest := []) (As := [.int (5 : Int32)]) C0 cb_X9_368 M.1 hrec (tX9_leaveInTrace l D cy ad A hcl) (pre_R C0 M.1) hl dX9_hail_33 rfl (Nat.le_of_ble_eq_true rfl) ⟨rfl, rfl⟩ ⟨Nat.le_of_ble_eq_true rfl, Nat.le_of_ble_eq_true rfl⟩ ⟨Nat.le_of_ble_eq_true rfl, Nat.le_of_ble_eq_true rfl⟩ rfl) M (fun H locs M => ?_)
      refine lv_bipush (v := (80 : Int32)) hx hb dX9_hail_36 (by decide) ?_
      obtain ⟨rfl, rfl⟩ := Prod.mk.inj (Option.some.inj hF)
      exact rt_MI C0 M hr dX9_hail_38
  · have hF := oi_t hc hF
    refine lv_iconst (v := (-1 : Int32)) hx hb dX9_hail_8 (by decide) ?_
    obtain ⟨rfl, rfl⟩ := Prod.mk.inj (Option.some.inj hF)
    exact rt_MI C0 M hr dX9_hail_9
set_option maxHeartbeats 4000000 in
set_option maxRecDepth 100000 in
theorem tX9_hail (l : Launch) (D : va_G) (cy : Nat → ClassId) (ad : Nat → Nat) (A : Nat → Prop) {S S' : MS} {a0 : Nat} {a1 : Int32} {r : Int32} (h : fX9_hail S a0 a1 = some (r, S')) : Met l yX9_hail [Cond.code yX9_hail cX9_hail 2 (some .int)] rmX9_hail (PcR D cy ad A S [.ref (ad a0), .int a1]) (QcM D cy ad A (m_n S) S' (some (.int r))) 0 0 A := by
  refine met_M (by decide +kernel) cw_X9_hail (Nat.le_of_ble_eq_true rfl) ?_
  intro p e s m args below meth c ls C0 M hr hin hl
  have hl : lv_has ls 2 [(0, .ref (ad a0)), (1, .int a1)] := hl
  exact wX9_hail_0 ad A C0 M hr h hl
set_option maxHeartbeats 4000000 in
set_option maxRecDepth 100000 in
theorem wX9_joining_0 {p : Program} {l : Launch} {e : Env} {s : State} {m : MethodId} {args : Array Value} {below : List Frame} {meth : Method} {c : Code} {D : va_G} {cy : Nat → ClassId} (ad : Nat → Nat) (A : Nat → Prop) {S : MS} {S' : MS} {H : Heap} {locs : List Loc} {n0 : Nat} {r : Int32} {ls : Array Slot} {x0 : Nat} (C0 : CX p s m args meth c RX9 cX9_joining 1 D cy) (M : ST D cy ad A s.heap (ZN n0 s.heap.size) S H locs) (hr : meth.sig.returnType = some .int) (hF : bX9_joining_0 S x0 = some (r, S')) (hl : lv_has ls 1 [(0, .ref (ad x0))]) : W p l e rmX9_joining s m args below meth c H locs 0 0 (MQ below (QcM D cy ad A n0 S' (some (.int r))) args s 0 0 A) (F0 m 0 ls []) := by
  unfold bX9_joining_0 at hF
  obtain ⟨hx, hb, -, hown, -, hts, -⟩ := id C0
  refine lv_aload_n hx hb dX9_joining_0 rfl (lv_at hl 0 rfl) ?_
  obtain ⟨v1, hv, hF⟩ := ob hF
  refine k_getP C0 M.1 hv fl_X9_49 dX9_joining_1 ?_
  refine lv_aload_n hx hb dX9_joining_4 rfl (lv_at hl 0 rfl) ?_
  obtain ⟨v5, hv, hF⟩ := ob hF
  refine k_getP C0 M.1 hv fl_X9_32 dX9_joining_5 ?_
  refine lv_aload_n hx hb dX9_joining_8 rfl (lv_at hl 0 rfl) ?_
  obtain ⟨v9, hv, hF⟩ := ob hF
  refine k_getP C0 M.1 hv fl_X9_36 dX9_joining_9 ?_
  obtain ⟨_, hrec, hF⟩ := ob hF
  obtain ⟨v12, S12, hcl, hF⟩ := ob2 hF
  refine go_MI (r_V (rest := []) (As := [.ref (ad v5), .ref (ad v9)]) C0 cb_X9_287 M.1 hrec (tX4_match l D cy ad A hcl) (pre_R C0 M.1) hl dX9_joining_12 rfl (Nat.le_of_ble_eq_true rfl) ⟨rfl, rfl⟩ ⟨Nat.le_of_ble_eq_true rfl, Nat.le_of_ble_eq_true rfl⟩ ⟨Nat.le_of_ble_eq_true rfl, Nat.le_of_ble_eq_true rfl⟩ rfl) M (fun H locs M => ?_)
  obtain ⟨rfl, rfl⟩ := Prod.mk.inj (Option.some.inj hF)
  exact rt_MI C0 M hr dX9_joining_15
set_option maxHeartbeats 4000000 in
set_option maxRecDepth 100000 in
theorem tX9_joining (l : Launch) (D : va_G) (cy : Nat → ClassId) (ad : Nat → Nat) (A : Nat → Prop) {S S' : MS} {a0 : Nat} {r : Int32} (h : fX9_joining S a0 = some (r, S')) : Met l yX9_joining [Cond.code yX9_joining cX9_joining 1 (some .int)] rmX9_joining (PcR D cy ad A S [.ref (ad a0)]) (QcM D cy ad A (m_n S) S' (some (.int r))) 0 0 A := by
  refine met_M (by decide +kernel) cw_X9_joining (Nat.le_of_ble_eq_true rfl) ?_
  intro p e s m args below meth c ls C0 M hr hin hl
  have hl : lv_has ls 1 [(0, .ref (ad a0))] := hl
  exact wX9_joining_0 ad A C0 M hr h hl
set_option maxHeartbeats 4000000 in
set_option maxRecDepth 100000 in
theorem wX0_countValues_0 {p : Program} {l : Launch} {e : Env} {s : State} {m : MethodId} {args : Array Value} {below : List Frame} {meth : Method} {c : Code} {D : va_G} {cy : Nat → ClassId} (ad : Nat → Nat) (A : Nat → Prop) {S : MS} {r : Int32} {out : ((Nat × Int32 × Int32) ⊕ Int32)} {ls : Array Slot} {x0 : Nat} (C0 : CX p s m args meth c RX0 cX0_countValues 3 D cy) (M : MW D cy ad A S s.heap) (hr : meth.sig.returnType = some .int) (hF : bX0_countValues_0 S x0 = some out) (hl : lv_has ls 3 [(0, .ref (ad x0))]) (Kr : ∀ r9, out = .inr r9 → r9 = r) (Kh0 : ∀ (y0 : Nat) (y1 : Int32) (y2 : Int32), out = .inl (y0, y1, y2) → ∀ (ls1 : Array Slot), lv_has ls1 3 [(0, .ref (ad y0)), (1, .int y1), (2, .int y2)] → W p l e rmX0_countValues s m args below meth c s.heap [] 0 0 (MQ below (QcS (some (.int r))) args s 0 0 (fun _ => False)) (F0 m 4 ls1 [])) : W p l e rmX0_countValues s m args below meth c s.heap [] 0 0 (MQ below (QcS (some (.int r))) args s 0 0 (fun _ => False)) (F0 m 0 ls []) := by
  unfold bX0_countValues_0 at hF
  obtain ⟨hx, hb, -, hown, -, hts, -⟩ := id C0
  refine lv_iconst (v := (0 : Int32)) hx hb dX0_countValues_0 (by decide) ?_
  refine lv_istore_n (lv' := [(1, .int (0 : Int32)), (0, .ref (ad x0))]) hx hb dX0_countValues_1 rfl hl (by decide) rfl (fun ls hl => ?_)
  refine lv_iconst (v := (0 : Int32)) hx hb dX0_countValues_2 (by decide) ?_
  refine lv_istore_n (lv' := [(2, .int (0 : Int32)), (1, .int (0 : Int32)), (0, .ref (ad x0))]) hx hb dX0_countValues_3 rfl hl (by decide) rfl (fun ls hl => ?_)
  exact Kh0 _ _ _ (Option.some.inj hF).symm _ (lv_sub hl [2, 1, 0] rfl)
set_option maxHeartbeats 4000000 in
set_option maxRecDepth 100000 in
theorem wX0_countValues_25 {p : Program} {l : Launch} {e : Env} {s : State} {m : MethodId} {args : Array Value} {below : List Frame} {meth : Method} {c : Code} {D : va_G} {cy : Nat → ClassId} (ad : Nat → Nat) (A : Nat → Prop) {S : MS} {r : Int32} {out : ((Nat × Int32 × Int32) ⊕ Int32)} {ls : Array Slot} {x0 : Nat} {x1 : Int32} {x2 : Int32} (C0 : CX p s m args meth c RX0 cX0_countValues 3 D cy) (M : MW D cy ad A S s.heap) (hr : meth.sig.returnType = some .int) (hF : bX0_countValues_25 S x0 x1 x2 = some out) (hl : lv_has ls 3 [(0, .ref (ad x0)), (1, .int x1), (2, .int x2)]) (Kr : ∀ r9, out = .inr r9 → r9 = r) (Kh0 : ∀ (y0 : Nat) (y1 : Int32) (y2 : Int32), out = .inl (y0, y1, y2) → ∀ (ls1 : Array Slot), lv_has ls1 3 [(0, .ref (ad y0)), (1, .int y1), (2, .int y2)] → W p l e rmX0_countValues s m args below meth c s.heap [] 0 0 (MQ below (QcS (some (.int r))) args s 0 0 (fun _ => False)) (F0 m 4 ls1 [])) : W p l e rmX0_countValues s m args below meth c s.heap [] 0 0 (MQ below (QcS (some (.int r))) args s 0 0 (fun _ => False)) (F0 m 25 ls []) := by
  unfold bX0_countValues_25 at hF
  obtain ⟨hx, hb, -, hown, -, hts, -⟩ := id C0
  obtain ⟨v25, hv, hF⟩ := ob hF
  refine lv_iinc (v := v25) (lv' := [(2, .int v25), (0, .ref (ad x0)), (1, .int x1)]) hx hb dX0_countValues_25 hl (k := 2) rfl (by rw [← vtI hv]; rfl) (by decide) rfl (fun ls hl => ?_)
  refine lv_goto (tgt := 4) hx hb dX0_countValues_28 (by decide) ?_
  exact Kh0 _ _ _ (Option.some.inj hF).symm _ (lv_sub hl [1, 2, 0] rfl)
set_option maxHeartbeats 4000000 in
set_option maxRecDepth 100000 in
theorem wX0_countValues_4 {p : Program} {l : Launch} {e : Env} {s : State} {m : MethodId} {args : Array Value} {below : List Frame} {meth : Method} {c : Code} {D : va_G} {cy : Nat → ClassId} (ad : Nat → Nat) (A : Nat → Prop) {S : MS} {r : Int32} {out : ((Nat × Int32 × Int32) ⊕ Int32)} {ls : Array Slot} {x0 : Nat} {x1 : Int32} {x2 : Int32} (C0 : CX p s m args meth c RX0 cX0_countValues 3 D cy) (M : MW D cy ad A S s.heap) (hr : meth.sig.returnType = some .int) (hF : bX0_countValues_4 S x0 x1 x2 = some out) (hl : lv_has ls 3 [(0, .ref (ad x0)), (1, .int x1), (2, .int x2)]) (Kr : ∀ r9, out = .inr r9 → r9 = r) (Kh0 : ∀ (y0 : Nat) (y1 : Int32) (y2 : Int32), out = .inl (y0, y1, y2) → ∀ (ls1 : Array Slot), lv_has ls1 3 [(0, .ref (ad y0)), (1, .int y1), (2, .int y2)] → W p l e rmX0_countValues s m args below meth c s.heap [] 0 0 (MQ below (QcS (some (.int r))) args s 0 0 (fun _ => False)) (F0 m 4 ls1 [])) : W p l e rmX0_countValues s m args below meth c s.heap [] 0 0 (MQ below (QcS (some (.int r))) args s 0 0 (fun _ => False)) (F0 m 4 ls []) := by
  unfold bX0_countValues_4 at hF
  obtain ⟨hx, hb, -, hown, -, hts, -⟩ := id C0
  refine lv_iload_n hx hb dX0_countValues_4 rfl (lv_at hl 2 rfl) ?_
  refine lv_sipush (v := (144 : Int32)) hx hb dX0_countValues_5 (by decide) ?_
  refine lv_icmp_ge (tgt := 31) hx hb dX0_countValues_8 (by decide) (fun hc => ?_) (fun hc => ?_)
  · have hF := oi_t hc hF
    refine lv_iload_n hx hb dX0_countValues_31 rfl (lv_at hl 1 rfl) ?_
    obtain rfl := (Kr _ (Option.some.inj hF).symm)
    exact rt_SI C0 hr dX0_countValues_32
  · have hF := oi_f hc hF
    refine lv_aload_n hx hb dX0_countValues_11 rfl (lv_at hl 0 rfl) ?_
    obtain ⟨v12, hv, hF⟩ := ob hF
    refine k_getP C0 M hv fl_X0_25 dX0_countValues_12 ?_
    refine lv_iload_n hx hb dX0_countValues_15 rfl (lv_at hl 2 rfl) ?_
    obtain ⟨v16, hv, hF⟩ := ob hF
    refine k_ld C0 M hv dX0_countValues_16 ?_
    refine lv_bipush (v := (-9 : Int32)) hx hb dX0_countValues_17 (by decide) ?_
    refine lv_icmp_eq (tgt := 25) hx hb dX0_countValues_19 (by decide) (fun hc => ?_) (fun hc => ?_)
    · have hF := oi_t hc hF
      exact wX0_countValues_25 ad A C0 M hr hF (lv_sub hl [0, 1, 2] rfl) Kr Kh0
    · have hF := oi_f hc hF
      obtain ⟨v22, hv, hF⟩ := ob hF
      refine lv_iinc (v := v22) (lv' := [(1, .int v22), (0, .ref (ad x0)), (2, .int x2)]) hx hb dX0_countValues_22 hl (k := 1) rfl (by rw [← vtI hv]; rfl) (by decide) rfl (fun ls hl => ?_)
      exact wX0_countValues_25 ad A C0 M hr hF (lv_sub hl [1, 0, 2] rfl) Kr Kh0
set_option maxHeartbeats 4000000 in
set_option maxRecDepth 100000 in
theorem tX0_countValues (l : Launch) (D : va_G) (cy : Nat → ClassId) (ad : Nat → Nat) (A : Nat → Prop) {S : MS} {a0 : Nat} {r : Int32} (h : fX0_countValues S a0 = some r) : Met l yX0_countValues [Cond.code yX0_countValues cX0_countValues 3 (some .int)] rmX0_countValues (PcR D cy ad A S [.ref (ad a0)]) (QcS (some (.int r))) 0 0 (fun _ => False) := by
  refine met_R (by decide +kernel) cw_X0_countValues (Nat.le_of_ble_eq_true rfl) ?_
  intro p e s m args below meth c ls C0 M hr hl
  have hl : lv_has ls 3 [(0, .ref (ad a0))] := hl
  have key := lim_walk (step := sX0_countValues S) (fun (q : (Nat × Int32 × Int32)) (r9 : Int32) => ∀ (r : Int32), r9 = r → ((∀ (y0 : Nat) (y1 : Int32) (y2 : Int32), q = (y0, y1, y2) → ∀ (ls1 : Array Slot), lv_has ls1 3 [(0, .ref (ad y0)), (1, .int y1), (2, .int y2)] → W p l e rmX0_countValues s m args below meth c s.heap [] 0 0 (MQ below (QcS (some (.int r))) args s 0 0 (fun _ => False)) (F0 m 4 ls1 [])))) ?_
  · unfold fX0_countValues at h
    cases hs0 : bX0_countValues_0 S a0 with
    | none => rw [hs0] at h; cases h
    | some out =>
      rw [hs0] at h
      refine wX0_countValues_0 ad A C0 M hr hs0 hl (fun r9 hr9 => ?_) ?_
      · subst hr9; exact Option.some.inj h
      · intro y0 y1 y2 hq; subst hq; exact (key _ _ h _ rfl) _ _ _ rfl
  · intro q r9 out hst hre hin9
    intro r er; subst er
    refine ?_
    · intro y0 y1 y2 hq ls1 hl
      subst hq
      exact wX0_countValues_4 ad A C0 M hr hst hl hre (fun k0 k1 k2 hk => (hin9 _ hk _ rfl) _ _ _ rfl)
set_option maxHeartbeats 4000000 in
set_option maxRecDepth 100000 in
theorem wX9_keep_0 {p : Program} {l : Launch} {e : Env} {s : State} {m : MethodId} {args : Array Value} {below : List Frame} {meth : Method} {c : Code} {D : va_G} {cy : Nat → ClassId} (ad : Nat → Nat) (A : Nat → Prop) {S : MS} {S' : MS} {H : Heap} {locs : List Loc} {n0 : Nat} {r : Int32} {ls : Array Slot} {x0 : Nat} {x1 : Int32} (C0 : CX p s m args meth c RX9 cX9_keep 3 D cy) (M : ST D cy ad A s.heap (ZN n0 s.heap.size) S H locs) (hr : meth.sig.returnType = some .int) (hF : bX9_keep_0 S x0 x1 = some (r, S')) (hl : lv_has ls 3 [(0, .ref (ad x0)), (1, .int x1)]) : W p l e rmX9_keep s m args below meth c H locs 0 0 (MQ below (QcM D cy ad A n0 S' (some (.int r))) args s 0 0 A) (F0 m 0 ls []) := by
  unfold bX9_keep_0 at hF
  obtain ⟨hx, hb, -, hown, -, hts, -⟩ := id C0
  refine lv_iload_n hx hb dX9_keep_0 rfl (lv_at hl 1 rfl) ?_
  refine lv_iconst (v := (4 : Int32)) hx hb dX9_keep_1 (by decide) ?_
  obtain ⟨v2, hcl, hF⟩ := ob hF
  refine go_SI (r_S (rest := []) (As := [.int x1, .int (4 : Int32)]) C0 cb_X9_79 (tX9_isBelow l D cy ad hcl) (pre_S C0) hl dX9_keep_2 rfl (Nat.le_of_ble_eq_true rfl) ⟨rfl, rfl⟩ ⟨Nat.le_of_ble_eq_true rfl, Nat.le_of_ble_eq_true rfl⟩ ⟨Nat.le_of_ble_eq_true rfl, Nat.le_of_ble_eq_true rfl⟩ rfl) ?_
  refine lv_if_ne (tgt := 10) hx hb dX9_keep_5 (by decide) (fun hc => ?_) (fun hc => ?_)
  · have hF := oi_f hc hF
    refine lv_aload_n hx hb dX9_keep_10 rfl (lv_at hl 0 rfl) ?_
    obtain ⟨_, hrec, hF⟩ := ob hF
    obtain ⟨v11, S11, hcl, hF⟩ := ob2 hF
    refine go_MP (r_V (rest := []) (As := []) C0 cb_X9_137 M.1 hrec (tX9_settledChart l D cy ad A hcl) (pre_R C0 M.1) hl dX9_keep_11 rfl (Nat.le_of_ble_eq_true rfl) ⟨rfl, rfl⟩ ⟨Nat.le_of_ble_eq_true rfl, Nat.le_of_ble_eq_true rfl⟩ ⟨Nat.le_of_ble_eq_true rfl, Nat.le_of_ble_eq_true rfl⟩ rfl) M (fun H locs M => ?_)
    refine lv_astore_n (lv' := [(2, .ref (ad v11)), (0, .ref (ad x0)), (1, .int x1)]) hx hb dX9_keep_14 rfl hl (by decide) rfl (fun ls hl => ?_)
    refine lv_aload_n hx hb dX9_keep_15 rfl (lv_at hl 0 rfl) ?_
    obtain ⟨v16, hv, hF⟩ := ob hF
    refine k_getP C0 M.1 hv fl_X9_232 dX9_keep_16 ?_
    refine lv_iconst (v := (0 : Int32)) hx hb dX9_keep_19 (by decide) ?_
    refine lv_aload_n hx hb dX9_keep_20 rfl (lv_at hl 1 rfl) ?_
    obtain ⟨v21, hv, hF⟩ := ob hF
    refine k_getP C0 M.1 hv fl_X9_55 dX9_keep_21 ?_
    refine lv_iload_n hx hb dX9_keep_24 rfl (lv_at hl 2 rfl) ?_
    obtain ⟨v25, hv, hF⟩ := ob hF
    refine k_ldP (ty := (.array .int)) 4 C0 M.1 (by decide) rfl rfl hv dX9_keep_25 ?_
    refine lv_iconst (v := (0 : Int32)) hx hb dX9_keep_26 (by decide) ?_
    refine lv_sipush (v := (144 : Int32)) hx hb dX9_keep_27 (by decide) ?_
    obtain ⟨S30, hv, hF⟩ := ob hF
    refine k_cpy C0 M hl (uw_of 896 (by decide +kernel) rfl) (uw_of 431 (by decide +kernel) rfl) (uw_of 430 (by decide +kernel) rfl) ini_java_lang_System hv (Nat.le_of_ble_eq_true rfl) (Nat.le_of_ble_eq_true rfl) dX9_keep_30 (fun H locs M => ?_)
    refine lv_aload_n hx hb dX9_keep_33 rfl (lv_at hl 1 rfl) ?_
    obtain ⟨v34, hv, hF⟩ := ob hF
    refine k_getP C0 M.1 hv fl_X9_58 dX9_keep_34 ?_
    refine lv_iload_n hx hb dX9_keep_37 rfl (lv_at hl 2 rfl) ?_
    refine lv_iconst (v := (1 : Int32)) hx hb dX9_keep_38 (by decide) ?_
    have hz : o_zb (1 : Int32) = some (1 : Int32) := rfl
    obtain ⟨S39, hv, hF⟩ := ob hF
    refine k_stZ C0 M hz hv dX9_keep_39 (fun H locs M => ?_)
    refine lv_aload_n hx hb dX9_keep_40 rfl (lv_at hl 0 rfl) ?_
    obtain ⟨_, hrec, hF⟩ := ob hF
    obtain ⟨v41, hcl, hF⟩ := ob hF
    refine go_SI (r_V (rest := []) (As := []) C0 cb_X9_235 M.1 hrec (tX0_countValues l D cy ad A hcl) (pre_R C0 M.1) hl dX9_keep_41 rfl (Nat.le_of_ble_eq_true rfl) ⟨rfl, rfl⟩ ⟨Nat.le_of_ble_eq_true rfl, Nat.le_of_ble_eq_true rfl⟩ ⟨Nat.le_of_ble_eq_true rfl, Nat.le_of_ble_eq_true rfl⟩ rfl) ?_
    obtain ⟨rfl, rfl⟩ := Prod.mk.inj (Option.some.inj hF)
    exact rt_MI C0 M hr dX9_keep_44
  · have hF := oi_t hc hF
    refine lv_iconst (v := (-1 : Int32)) hx hb dX9_keep_8 (by decide) ?_
    obtain ⟨rfl, rfl⟩ := Prod.mk.inj (Option.some.inj hF)
    exact rt_MI C0 M hr dX9_keep_9
set_option maxHeartbeats 4000000 in
set_option maxRecDepth 100000 in
theorem tX9_keep (l : Launch) (D : va_G) (cy : Nat → ClassId) (ad : Nat → Nat) (A : Nat → Prop) {S S' : MS} {a0 : Nat} {a1 : Int32} {r : Int32} (h : fX9_keep S a0 a1 = some (r, S')) : Met l yX9_keep [Cond.code yX9_keep cX9_keep 3 (some .int)] rmX9_keep (PcR D cy ad A S [.ref (ad a0), .int a1]) (QcM D cy ad A (m_n S) S' (some (.int r))) 0 0 A := by
  refine met_M (by decide +kernel) cw_X9_keep (Nat.le_of_ble_eq_true rfl) ?_
  intro p e s m args below meth c ls C0 M hr hin hl
  have hl : lv_has ls 3 [(0, .ref (ad a0)), (1, .int a1)] := hl
  exact wX9_keep_0 ad A C0 M hr h hl
