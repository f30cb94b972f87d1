theorem tw_sX7_found : Cond.selects RX7 yX7_found yX7_found ∈ js_good := List.mem_filter.mpr ⟨List.mem_append_left _ (List.mem_of_getElem? (i := 0) (by decide +kernel)), by decide +kernel⟩
theorem tw_sX3_place : Cond.selects RX3 yX3_place yX3_place ∈ js_good := List.mem_filter.mpr ⟨List.mem_append_left _ (List.mem_of_getElem? (i := 1) (by decide +kernel)), by decide +kernel⟩
theorem tw_sX7_isPlace : Cond.selects RX7 yX7_isPlace yX7_isPlace ∈ js_good := List.mem_filter.mpr ⟨List.mem_append_left _ (List.mem_of_getElem? (i := 2) (by decide +kernel)), by decide +kernel⟩
theorem tw_sX0_take : Cond.selects RX0 yX0_take yX0_take ∈ js_good := List.mem_filter.mpr ⟨List.mem_append_left _ (List.mem_of_getElem? (i := 3) (by decide +kernel)), by decide +kernel⟩
theorem tw_sX7_joined : Cond.selects RX7 yX7_joined yX7_joined ∈ js_good := List.mem_filter.mpr ⟨List.mem_append_left _ (List.mem_of_getElem? (i := 4) (by decide +kernel)), by decide +kernel⟩
theorem tw_sX6_settleOne : Cond.selects RX6 yX6_settleOne yX6_settleOne ∈ js_good := List.mem_filter.mpr ⟨List.mem_append_left _ (List.mem_of_getElem? (i := 5) (by decide +kernel)), by decide +kernel⟩
theorem tw_sX4_at : Cond.selects RX4 yX4_at yX4_at ∈ js_good := List.mem_filter.mpr ⟨List.mem_append_left _ (List.mem_of_getElem? (i := 6) (by decide +kernel)), by decide +kernel⟩
theorem tw_sX5_passItem : Cond.selects RX5 yX5_passItem yX5_passItem ∈ js_good := List.mem_filter.mpr ⟨List.mem_append_left _ (List.mem_of_getElem? (i := 7) (by decide +kernel)), by decide +kernel⟩
theorem tw_sX5_passSaying : Cond.selects RX5 yX5_passSaying yX5_passSaying ∈ js_good := List.mem_filter.mpr ⟨List.mem_append_left _ (List.mem_of_getElem? (i := 8) (by decide +kernel)), by decide +kernel⟩
theorem tw_sX5_passLayer : Cond.selects RX5 yX5_passLayer yX5_passLayer ∈ js_good := List.mem_filter.mpr ⟨List.mem_append_left _ (List.mem_of_getElem? (i := 9) (by decide +kernel)), by decide +kernel⟩
theorem tw_sX5_passDamp : Cond.selects RX5 yX5_passDamp yX5_passDamp ∈ js_good := List.mem_filter.mpr ⟨List.mem_append_left _ (List.mem_of_getElem? (i := 10) (by decide +kernel)), by decide +kernel⟩
theorem tw_sX5_passFlue : Cond.selects RX5 yX5_passFlue yX5_passFlue ∈ js_good := List.mem_filter.mpr ⟨List.mem_append_left _ (List.mem_of_getElem? (i := 11) (by decide +kernel)), by decide +kernel⟩
theorem tw_sX5_perform : Cond.selects RX5 yX5_perform yX5_perform ∈ js_good := List.mem_filter.mpr ⟨List.mem_append_left _ (List.mem_of_getElem? (i := 12) (by decide +kernel)), by decide +kernel⟩
theorem tw_sX7_sheetFinding : Cond.selects RX7 yX7_sheetFinding yX7_sheetFinding ∈ js_good := List.mem_filter.mpr ⟨List.mem_append_left _ (List.mem_of_getElem? (i := 13) (by decide +kernel)), by decide +kernel⟩
theorem tw_sX7_sheetAndFlueFinding : Cond.selects RX7 yX7_sheetAndFlueFinding yX7_sheetAndFlueFinding ∈ js_good := List.mem_filter.mpr ⟨List.mem_append_left _ (List.mem_of_getElem? (i := 14) (by decide +kernel)), by decide +kernel⟩
theorem tw_sX7_isJustBrought : Cond.selects RX7 yX7_isJustBrought yX7_isJustBrought ∈ js_good := List.mem_filter.mpr ⟨List.mem_append_left _ (List.mem_of_getElem? (i := 15) (by decide +kernel)), by decide +kernel⟩
theorem tw_sX8_finds : Cond.selects RX8 yX8_finds yX8_finds ∈ js_good := List.mem_filter.mpr ⟨List.mem_append_left _ (List.mem_of_getElem? (i := 16) (by decide +kernel)), by decide +kernel⟩
theorem tw_sX8_adds : Cond.selects RX8 yX8_adds yX8_adds ∈ js_good := List.mem_filter.mpr ⟨List.mem_append_left _ (List.mem_of_getElem? (i := 17) (by decide +kernel)), by decide +kernel⟩
theorem tw_sX8_isFlue : Cond.selects RX8 yX8_isFlue yX8_isFlue ∈ js_good := List.mem_filter.mpr ⟨List.mem_append_left _ (List.mem_of_getElem? (i := 18) (by decide +kernel)), by decide +kernel⟩
theorem tw_sX8_kindOf : Cond.selects RX8 yX8_kindOf yX8_kindOf ∈ js_good := List.mem_filter.mpr ⟨List.mem_append_left _ (List.mem_of_getElem? (i := 19) (by decide +kernel)), by decide +kernel⟩
theorem tw_sX8_layersOf : Cond.selects RX8 yX8_layersOf yX8_layersOf ∈ js_good := List.mem_filter.mpr ⟨List.mem_append_left _ (List.mem_of_getElem? (i := 20) (by decide +kernel)), by decide +kernel⟩
theorem tw_sX8_layers : Cond.selects RX8 yX8_layers yX8_layers ∈ js_good := List.mem_filter.mpr ⟨List.mem_append_left _ (List.mem_of_getElem? (i := 21) (by decide +kernel)), by decide +kernel⟩
theorem tw_sX8_wordsOf : Cond.selects RX8 yX8_wordsOf yX8_wordsOf ∈ js_good := List.mem_filter.mpr ⟨List.mem_append_left _ (List.mem_of_getElem? (i := 22) (by decide +kernel)), by decide +kernel⟩
theorem tw_sX8_wordsAt : Cond.selects RX8 yX8_wordsAt yX8_wordsAt ∈ js_good := List.mem_filter.mpr ⟨List.mem_append_left _ (List.mem_of_getElem? (i := 23) (by decide +kernel)), by decide +kernel⟩
theorem tw_sX8_emptyBends : Cond.selects RX8 yX8_emptyBends yX8_emptyBends ∈ js_good := List.mem_filter.mpr ⟨List.mem_append_left _ (List.mem_of_getElem? (i := 24) (by decide +kernel)), by decide +kernel⟩
theorem tw_sX8_cakes : Cond.selects RX8 yX8_cakes yX8_cakes ∈ js_good := List.mem_filter.mpr ⟨List.mem_append_left _ (List.mem_of_getElem? (i := 25) (by decide +kernel)), by decide +kernel⟩
theorem tw_sX8_holds : Cond.selects RX8 yX8_holds yX8_holds ∈ js_good := List.mem_filter.mpr ⟨List.mem_append_left _ (List.mem_of_getElem? (i := 26) (by decide +kernel)), by decide +kernel⟩
theorem tw_sX8_becomes : Cond.selects RX8 yX8_becomes yX8_becomes ∈ js_good := List.mem_filter.mpr ⟨List.mem_append_left _ (List.mem_of_getElem? (i := 27) (by decide +kernel)), by decide +kernel⟩
theorem tw_sX8_rise : Cond.selects RX8 yX8_rise yX8_rise ∈ js_good := List.mem_filter.mpr ⟨List.mem_append_left _ (List.mem_of_getElem? (i := 28) (by decide +kernel)), by decide +kernel⟩
theorem tw_sX8_says : Cond.selects RX8 yX8_says yX8_says ∈ js_good := List.mem_filter.mpr ⟨List.mem_append_left _ (List.mem_of_getElem? (i := 29) (by decide +kernel)), by decide +kernel⟩
theorem tw_sX8_lands : Cond.selects RX8 yX8_lands yX8_lands ∈ js_good := List.mem_filter.mpr ⟨List.mem_append_left _ (List.mem_of_getElem? (i := 30) (by decide +kernel)), by decide +kernel⟩
theorem tw_sX8_isFull : Cond.selects RX8 yX8_isFull yX8_isFull ∈ js_good := List.mem_filter.mpr ⟨List.mem_append_left _ (List.mem_of_getElem? (i := 31) (by decide +kernel)), by decide +kernel⟩
theorem tw_sX8_lies : Cond.selects RX8 yX8_lies yX8_lies ∈ js_good := List.mem_filter.mpr ⟨List.mem_append_left _ (List.mem_of_getElem? (i := 32) (by decide +kernel)), by decide +kernel⟩
theorem tw_sX8_goesOn : Cond.selects RX8 yX8_goesOn yX8_goesOn ∈ js_good := List.mem_filter.mpr ⟨List.mem_append_left _ (List.mem_of_getElem? (i := 33) (by decide +kernel)), by decide +kernel⟩
theorem tw_sX8_day : Cond.selects RX8 yX8_day yX8_day ∈ js_good := List.mem_filter.mpr ⟨List.mem_append_left _ (List.mem_of_getElem? (i := 34) (by decide +kernel)), by decide +kernel⟩
theorem tw_sX8_withCake : Cond.selects RX8 yX8_withCake yX8_withCake ∈ js_good := List.mem_filter.mpr ⟨List.mem_append_left _ (List.mem_of_getElem? (i := 35) (by decide +kernel)), by decide +kernel⟩
theorem tw_sX8_layersAll : Cond.selects RX8 yX8_layersAll yX8_layersAll ∈ js_good := List.mem_filter.mpr ⟨List.mem_append_left _ (List.mem_of_getElem? (i := 36) (by decide +kernel)), by decide +kernel⟩
theorem tw_sX8_wordsAll : Cond.selects RX8 yX8_wordsAll yX8_wordsAll ∈ js_good := List.mem_filter.mpr ⟨List.mem_append_left _ (List.mem_of_getElem? (i := 37) (by decide +kernel)), by decide +kernel⟩
theorem tw_sX8_cakeAll : Cond.selects RX8 yX8_cakeAll yX8_cakeAll ∈ js_good := List.mem_filter.mpr ⟨List.mem_append_left _ (List.mem_of_getElem? (i := 38) (by decide +kernel)), by decide +kernel⟩
theorem tw_sX8_isBrush : Cond.selects RX8 yX8_isBrush yX8_isBrush ∈ js_good := List.mem_filter.mpr ⟨List.mem_append_left _ (List.mem_of_getElem? (i := 39) (by decide +kernel)), by decide +kernel⟩
theorem tw_sX8_loose : Cond.selects RX8 yX8_loose yX8_loose ∈ js_good := List.mem_filter.mpr ⟨List.mem_append_left _ (List.mem_of_getElem? (i := 40) (by decide +kernel)), by decide +kernel⟩
theorem tw_sX8_broughtBy : Cond.selects RX8 yX8_broughtBy yX8_broughtBy ∈ js_good := List.mem_filter.mpr ⟨List.mem_append_left _ (List.mem_of_getElem? (i := 41) (by decide +kernel)), by decide +kernel⟩
theorem tw_sX8_brings : Cond.selects RX8 yX8_brings yX8_brings ∈ js_good := List.mem_filter.mpr ⟨List.mem_append_left _ (List.mem_of_getElem? (i := 42) (by decide +kernel)), by decide +kernel⟩
theorem tw_sX8_laysAside : Cond.selects RX8 yX8_laysAside yX8_laysAside ∈ js_good := List.mem_filter.mpr ⟨List.mem_append_left _ (List.mem_of_getElem? (i := 43) (by decide +kernel)), by decide +kernel⟩
theorem tw_sX8_takesBack : Cond.selects RX8 yX8_takesBack yX8_takesBack ∈ js_good := List.mem_filter.mpr ⟨List.mem_append_left _ (List.mem_of_getElem? (i := 44) (by decide +kernel)), by decide +kernel⟩
theorem tw_sX8_saysAll : Cond.selects RX8 yX8_saysAll yX8_saysAll ∈ js_good := List.mem_filter.mpr ⟨List.mem_append_left _ (List.mem_of_getElem? (i := 45) (by decide +kernel)), by decide +kernel⟩
theorem tw_sX8_saves : Cond.selects RX8 yX8_saves yX8_saves ∈ js_good := List.mem_filter.mpr ⟨List.mem_append_left _ (List.mem_of_getElem? (i := 46) (by decide +kernel)), by decide +kernel⟩
theorem tw_sX8_token : Cond.selects RX8 yX8_token yX8_token ∈ js_good := List.mem_filter.mpr ⟨List.mem_append_left _ (List.mem_of_getElem? (i := 47) (by decide +kernel)), by decide +kernel⟩
theorem tw_sX8_byteAt : Cond.selects RX8 yX8_byteAt yX8_byteAt ∈ js_good := List.mem_filter.mpr ⟨List.mem_append_left _ (List.mem_of_getElem? (i := 48) (by decide +kernel)), by decide +kernel⟩
theorem tw_sX8_item : Cond.selects RX8 yX8_item yX8_item ∈ js_good := List.mem_filter.mpr ⟨List.mem_append_left _ (List.mem_of_getElem? (i := 49) (by decide +kernel)), by decide +kernel⟩
theorem tw_sX8_kindHere : Cond.selects RX8 yX8_kindHere yX8_kindHere ∈ js_good := List.mem_filter.mpr ⟨List.mem_append_left _ (List.mem_of_getElem? (i := 50) (by decide +kernel)), by decide +kernel⟩
theorem tw_sX8_word : Cond.selects RX8 yX8_word yX8_word ∈ js_good := List.mem_filter.mpr ⟨List.mem_append_left _ (List.mem_of_getElem? (i := 51) (by decide +kernel)), by decide +kernel⟩
theorem tw_sX8_flueItem : Cond.selects RX8 yX8_flueItem yX8_flueItem ∈ js_good := List.mem_filter.mpr ⟨List.mem_append_left _ (List.mem_of_getElem? (i := 52) (by decide +kernel)), by decide +kernel⟩
theorem tw_sX8_must : Cond.selects RX8 yX8_must yX8_must ∈ js_good := List.mem_filter.mpr ⟨List.mem_append_left _ (List.mem_of_getElem? (i := 53) (by decide +kernel)), by decide +kernel⟩
theorem tw_sX8_sayItem : Cond.selects RX8 yX8_sayItem yX8_sayItem ∈ js_good := List.mem_filter.mpr ⟨List.mem_append_left _ (List.mem_of_getElem? (i := 54) (by decide +kernel)), by decide +kernel⟩
theorem tw_sX8_number : Cond.selects RX8 yX8_number yX8_number ∈ js_good := List.mem_filter.mpr ⟨List.mem_append_left _ (List.mem_of_getElem? (i := 55) (by decide +kernel)), by decide +kernel⟩
theorem tw_sX8_perhaps : Cond.selects RX8 yX8_perhaps yX8_perhaps ∈ js_good := List.mem_filter.mpr ⟨List.mem_append_left _ (List.mem_of_getElem? (i := 56) (by decide +kernel)), by decide +kernel⟩
theorem tw_sX8_layerItem : Cond.selects RX8 yX8_layerItem yX8_layerItem ∈ js_good := List.mem_filter.mpr ⟨List.mem_append_left _ (List.mem_of_getElem? (i := 57) (by decide +kernel)), by decide +kernel⟩
theorem tw_sX8_putsBack : Cond.selects RX8 yX8_putsBack yX8_putsBack ∈ js_good := List.mem_filter.mpr ⟨List.mem_append_left _ (List.mem_of_getElem? (i := 58) (by decide +kernel)), by decide +kernel⟩
theorem tw_sX8_wrongSheet : Cond.selects RX8 yX8_wrongSheet yX8_wrongSheet ∈ js_good := List.mem_filter.mpr ⟨List.mem_append_left _ (List.mem_of_getElem? (i := 59) (by decide +kernel)), by decide +kernel⟩
theorem tw_sX8_wrongFlue : Cond.selects RX8 yX8_wrongFlue yX8_wrongFlue ∈ js_good := List.mem_filter.mpr ⟨List.mem_append_left _ (List.mem_of_getElem? (i := 60) (by decide +kernel)), by decide +kernel⟩
theorem tw_sX8_isBook : Cond.selects RX8 yX8_isBook yX8_isBook ∈ js_good := List.mem_filter.mpr ⟨List.mem_append_left _ (List.mem_of_getElem? (i := 61) (by decide +kernel)), by decide +kernel⟩
theorem tw_sX8_fullOnes : Cond.selects RX8 yX8_fullOnes yX8_fullOnes ∈ js_good := List.mem_filter.mpr ⟨List.mem_append_left _ (List.mem_of_getElem? (i := 62) (by decide +kernel)), by decide +kernel⟩
theorem tw_1 : Cond.initialized RX7 ∈ js_good := List.mem_filter.mpr ⟨List.mem_append_right _ (List.mem_of_getElem? (i := 1) (by decide +kernel)), by decide +kernel⟩
theorem tw_2 : Cond.initialized RX3 ∈ js_good := List.mem_filter.mpr ⟨List.mem_append_right _ (List.mem_of_getElem? (i := 2) (by decide +kernel)), by decide +kernel⟩
theorem tw_3 : Cond.initialized RX0 ∈ js_good := List.mem_filter.mpr ⟨List.mem_append_right _ (List.mem_of_getElem? (i := 3) (by decide +kernel)), by decide +kernel⟩
theorem tw_4 : Cond.initialized RX6 ∈ js_good := List.mem_filter.mpr ⟨List.mem_append_right _ (List.mem_of_getElem? (i := 4) (by decide +kernel)), by decide +kernel⟩
theorem tw_5 : Cond.initialized RX4 ∈ js_good := List.mem_filter.mpr ⟨List.mem_append_right _ (List.mem_of_getElem? (i := 5) (by decide +kernel)), by decide +kernel⟩
theorem tw_6 : Cond.initialized RX5 ∈ js_good := List.mem_filter.mpr ⟨List.mem_append_right _ (List.mem_of_getElem? (i := 6) (by decide +kernel)), by decide +kernel⟩
theorem tw_7 : Cond.initialized RX2 ∈ js_good := List.mem_filter.mpr ⟨List.mem_append_right _ (List.mem_of_getElem? (i := 7) (by decide +kernel)), by decide +kernel⟩
theorem tw_8 : Cond.initialized RX8 ∈ js_good := List.mem_filter.mpr ⟨List.mem_append_right _ (List.mem_of_getElem? (i := 8) (by decide +kernel)), by decide +kernel⟩
theorem tw_9 : Cond.initialized RX1 ∈ js_good := List.mem_filter.mpr ⟨List.mem_append_right _ (List.mem_of_getElem? (i := 9) (by decide +kernel)), by decide +kernel⟩
theorem tw_10 : Cond.initialized RJ9 ∈ js_good := List.mem_filter.mpr ⟨List.mem_append_right _ (List.mem_of_getElem? (i := 10) (by decide +kernel)), by decide +kernel⟩
theorem tw_11 : Cond.initialized RJ6 ∈ js_good := List.mem_filter.mpr ⟨List.mem_append_right _ (List.mem_of_getElem? (i := 11) (by decide +kernel)), by decide +kernel⟩
theorem tw_12 : Cond.initialized RJ0 ∈ js_good := List.mem_filter.mpr ⟨List.mem_append_right _ (List.mem_of_getElem? (i := 12) (by decide +kernel)), by decide +kernel⟩
theorem tw_13 : Cond.initialized RJ1 ∈ js_good := List.mem_filter.mpr ⟨List.mem_append_right _ (List.mem_of_getElem? (i := 13) (by decide +kernel)), by decide +kernel⟩
theorem tw_14 : Cond.initialized RJ3 ∈ js_good := List.mem_filter.mpr ⟨List.mem_append_right _ (List.mem_of_getElem? (i := 14) (by decide +kernel)), by decide +kernel⟩
theorem tw_16 : Cond.initialized RJ10 ∈ js_good := List.mem_filter.mpr ⟨List.mem_append_right _ (List.mem_of_getElem? (i := 16) (by decide +kernel)), by decide +kernel⟩
theorem tw_31 : Cond.fieldLink RX3 9 RX3 "day" "I" ∈ js_good := List.mem_filter.mpr ⟨List.mem_append_right _ (List.mem_of_getElem? (i := 31) (by decide +kernel)), by decide +kernel⟩
theorem tw_32 : Cond.fieldLink RX6 32 RX3 "day" "I" ∈ js_good := List.mem_filter.mpr ⟨List.mem_append_right _ (List.mem_of_getElem? (i := 32) (by decide +kernel)), by decide +kernel⟩
theorem tw_33 : Cond.fieldLink RX7 148 RX3 "day" "I" ∈ js_good := List.mem_filter.mpr ⟨List.mem_append_right _ (List.mem_of_getElem? (i := 33) (by decide +kernel)), by decide +kernel⟩
theorem tw_34 : Cond.fieldLink RX3 15 RX3 "damp" "I" ∈ js_good := List.mem_filter.mpr ⟨List.mem_append_right _ (List.mem_of_getElem? (i := 34) (by decide +kernel)), by decide +kernel⟩
theorem tw_35 : Cond.fieldLink RX0 28 RX3 "damp" "I" ∈ js_good := List.mem_filter.mpr ⟨List.mem_append_right _ (List.mem_of_getElem? (i := 35) (by decide +kernel)), by decide +kernel⟩
theorem tw_36 : Cond.fieldLink RX7 97 RX3 "damp" "I" ∈ js_good := List.mem_filter.mpr ⟨List.mem_append_right _ (List.mem_of_getElem? (i := 36) (by decide +kernel)), by decide +kernel⟩
theorem tw_37 : Cond.fieldLink RX5 106 RX3 "damp" "I" ∈ js_good := List.mem_filter.mpr ⟨List.mem_append_right _ (List.mem_of_getElem? (i := 37) (by decide +kernel)), by decide +kernel⟩
theorem tw_38 : Cond.fieldLink RX3 18 RX3 "flues" "I" ∈ js_good := List.mem_filter.mpr ⟨List.mem_append_right _ (List.mem_of_getElem? (i := 38) (by decide +kernel)), by decide +kernel⟩
theorem tw_39 : Cond.fieldLink RX5 39 RX3 "flues" "I" ∈ js_good := List.mem_filter.mpr ⟨List.mem_append_right _ (List.mem_of_getElem? (i := 39) (by decide +kernel)), by decide +kernel⟩
theorem tw_40 : Cond.fieldLink RX7 74 RX3 "flues" "I" ∈ js_good := List.mem_filter.mpr ⟨List.mem_append_right _ (List.mem_of_getElem? (i := 40) (by decide +kernel)), by decide +kernel⟩
theorem tw_41 : Cond.fieldLink RX3 21 RX3 "kinds" "[I" ∈ js_good := List.mem_filter.mpr ⟨List.mem_append_right _ (List.mem_of_getElem? (i := 41) (by decide +kernel)), by decide +kernel⟩
theorem tw_42 : Cond.fieldLink RX3 25 RX3 "heights" "[I" ∈ js_good := List.mem_filter.mpr ⟨List.mem_append_right _ (List.mem_of_getElem? (i := 42) (by decide +kernel)), by decide +kernel⟩
theorem tw_43 : Cond.fieldLink RX3 28 RX3 "words" "[I" ∈ js_good := List.mem_filter.mpr ⟨List.mem_append_right _ (List.mem_of_getElem? (i := 43) (by decide +kernel)), by decide +kernel⟩
theorem tw_44 : Cond.fieldLink RX3 31 RX3 "cakes" "[I" ∈ js_good := List.mem_filter.mpr ⟨List.mem_append_right _ (List.mem_of_getElem? (i := 44) (by decide +kernel)), by decide +kernel⟩
theorem tw_67 : Cond.fieldLink RX0 9 RX0 "number" "I" ∈ js_good := List.mem_filter.mpr ⟨List.mem_append_right _ (List.mem_of_getElem? (i := 67) (by decide +kernel)), by decide +kernel⟩
theorem tw_68 : Cond.fieldLink RX7 193 RX0 "number" "I" ∈ js_good := List.mem_filter.mpr ⟨List.mem_append_right _ (List.mem_of_getElem? (i := 68) (by decide +kernel)), by decide +kernel⟩
theorem tw_69 : Cond.fieldLink RX0 15 RX0 "set" "I" ∈ js_good := List.mem_filter.mpr ⟨List.mem_append_right _ (List.mem_of_getElem? (i := 69) (by decide +kernel)), by decide +kernel⟩
theorem tw_70 : Cond.fieldLink RX7 190 RX0 "set" "I" ∈ js_good := List.mem_filter.mpr ⟨List.mem_append_right _ (List.mem_of_getElem? (i := 70) (by decide +kernel)), by decide +kernel⟩
theorem tw_71 : Cond.fieldLink RX0 18 RX0 "words" "[I" ∈ js_good := List.mem_filter.mpr ⟨List.mem_append_right _ (List.mem_of_getElem? (i := 71) (by decide +kernel)), by decide +kernel⟩
theorem tw_85 : Cond.fieldLink RX6 9 RX6 "laid" "I" ∈ js_good := List.mem_filter.mpr ⟨List.mem_append_right _ (List.mem_of_getElem? (i := 85) (by decide +kernel)), by decide +kernel⟩
theorem tw_86 : Cond.fieldLink RX7 225 RX6 "laid" "I" ∈ js_good := List.mem_filter.mpr ⟨List.mem_append_right _ (List.mem_of_getElem? (i := 86) (by decide +kernel)), by decide +kernel⟩
theorem tw_87 : Cond.fieldLink RX6 15 RX6 "bendsAdded" "I" ∈ js_good := List.mem_filter.mpr ⟨List.mem_append_right _ (List.mem_of_getElem? (i := 87) (by decide +kernel)), by decide +kernel⟩
theorem tw_88 : Cond.fieldLink RX7 228 RX6 "bendsAdded" "I" ∈ js_good := List.mem_filter.mpr ⟨List.mem_append_right _ (List.mem_of_getElem? (i := 88) (by decide +kernel)), by decide +kernel⟩
theorem tw_89 : Cond.fieldLink RX6 18 RX6 "heights" "[I" ∈ js_good := List.mem_filter.mpr ⟨List.mem_append_right _ (List.mem_of_getElem? (i := 89) (by decide +kernel)), by decide +kernel⟩
theorem tw_103 : Cond.fieldLink RX4 7 RX4 "length" "I" ∈ js_good := List.mem_filter.mpr ⟨List.mem_append_right _ (List.mem_of_getElem? (i := 103) (by decide +kernel)), by decide +kernel⟩
theorem tw_104 : Cond.fieldLink RX7 237 RX4 "length" "I" ∈ js_good := List.mem_filter.mpr ⟨List.mem_append_right _ (List.mem_of_getElem? (i := 104) (by decide +kernel)), by decide +kernel⟩
theorem tw_105 : Cond.fieldLink RX4 13 RX4 "token" "I" ∈ js_good := List.mem_filter.mpr ⟨List.mem_append_right _ (List.mem_of_getElem? (i := 105) (by decide +kernel)), by decide +kernel⟩
theorem tw_106 : Cond.fieldLink RX5 55 RX4 "token" "I" ∈ js_good := List.mem_filter.mpr ⟨List.mem_append_right _ (List.mem_of_getElem? (i := 106) (by decide +kernel)), by decide +kernel⟩
theorem tw_107 : Cond.fieldLink RX4 16 RX4 "from" "I" ∈ js_good := List.mem_filter.mpr ⟨List.mem_append_right _ (List.mem_of_getElem? (i := 107) (by decide +kernel)), by decide +kernel⟩
theorem tw_108 : Cond.fieldLink RX5 61 RX4 "from" "I" ∈ js_good := List.mem_filter.mpr ⟨List.mem_append_right _ (List.mem_of_getElem? (i := 108) (by decide +kernel)), by decide +kernel⟩
theorem tw_109 : Cond.fieldLink RX4 19 RX4 "to" "I" ∈ js_good := List.mem_filter.mpr ⟨List.mem_append_right _ (List.mem_of_getElem? (i := 109) (by decide +kernel)), by decide +kernel⟩
theorem tw_110 : Cond.fieldLink RX4 22 RX4 "value" "I" ∈ js_good := List.mem_filter.mpr ⟨List.mem_append_right _ (List.mem_of_getElem? (i := 110) (by decide +kernel)), by decide +kernel⟩
theorem tw_111 : Cond.fieldLink RX4 25 RX4 "bytes" "[I" ∈ js_good := List.mem_filter.mpr ⟨List.mem_append_right _ (List.mem_of_getElem? (i := 111) (by decide +kernel)), by decide +kernel⟩
theorem tw_131 : Cond.fieldLink RX5 9 RX5 "flues" "I" ∈ js_good := List.mem_filter.mpr ⟨List.mem_append_right _ (List.mem_of_getElem? (i := 131) (by decide +kernel)), by decide +kernel⟩
theorem tw_132 : Cond.fieldLink RX5 15 RX5 "item" "I" ∈ js_good := List.mem_filter.mpr ⟨List.mem_append_right _ (List.mem_of_getElem? (i := 132) (by decide +kernel)), by decide +kernel⟩
theorem tw_133 : Cond.fieldLink RX5 18 RX5 "kind" "I" ∈ js_good := List.mem_filter.mpr ⟨List.mem_append_right _ (List.mem_of_getElem? (i := 133) (by decide +kernel)), by decide +kernel⟩
theorem tw_134 : Cond.fieldLink RX5 21 RX5 "flue" "I" ∈ js_good := List.mem_filter.mpr ⟨List.mem_append_right _ (List.mem_of_getElem? (i := 134) (by decide +kernel)), by decide +kernel⟩
theorem tw_135 : Cond.fieldLink RX5 24 RX5 "bend" "I" ∈ js_good := List.mem_filter.mpr ⟨List.mem_append_right _ (List.mem_of_getElem? (i := 135) (by decide +kernel)), by decide +kernel⟩
theorem tw_136 : Cond.fieldLink RX5 27 RX5 "word" "I" ∈ js_good := List.mem_filter.mpr ⟨List.mem_append_right _ (List.mem_of_getElem? (i := 136) (by decide +kernel)), by decide +kernel⟩
theorem tw_137 : Cond.fieldLink RX5 30 RX5 "voice" "I" ∈ js_good := List.mem_filter.mpr ⟨List.mem_append_right _ (List.mem_of_getElem? (i := 137) (by decide +kernel)), by decide +kernel⟩
theorem tw_138 : Cond.fieldLink RX5 33 RX5 "cake" "I" ∈ js_good := List.mem_filter.mpr ⟨List.mem_append_right _ (List.mem_of_getElem? (i := 138) (by decide +kernel)), by decide +kernel⟩
theorem tw_139 : Cond.fieldLink RX5 36 RX5 "damp" "I" ∈ js_good := List.mem_filter.mpr ⟨List.mem_append_right _ (List.mem_of_getElem? (i := 139) (by decide +kernel)), by decide +kernel⟩
theorem tw_165 : Cond.fieldLink RX2 9 RX2 "widths" "[I" ∈ js_good := List.mem_filter.mpr ⟨List.mem_append_right _ (List.mem_of_getElem? (i := 165) (by decide +kernel)), by decide +kernel⟩
theorem tw_166 : Cond.fieldLink RX2 13 RX2 "lengths" "[I" ∈ js_good := List.mem_filter.mpr ⟨List.mem_append_right _ (List.mem_of_getElem? (i := 166) (by decide +kernel)), by decide +kernel⟩
theorem tw_167 : Cond.fieldLink RX2 16 RX2 "numbers" "[J" ∈ js_good := List.mem_filter.mpr ⟨List.mem_append_right _ (List.mem_of_getElem? (i := 167) (by decide +kernel)), by decide +kernel⟩
theorem tw_176 : Cond.fieldLink RX7 10 RX7 "stack" "LSootTalk$Stack;" ∈ js_good := List.mem_filter.mpr ⟨List.mem_append_right _ (List.mem_of_getElem? (i := 176) (by decide +kernel)), by decide +kernel⟩
theorem tw_177 : Cond.fieldLink RX7 16 RX7 "kept" "LSootTalk$Stack;" ∈ js_good := List.mem_filter.mpr ⟨List.mem_append_right _ (List.mem_of_getElem? (i := 177) (by decide +kernel)), by decide +kernel⟩
theorem tw_178 : Cond.fieldLink RX7 19 RX7 "isKept" "Z" ∈ js_good := List.mem_filter.mpr ⟨List.mem_append_right _ (List.mem_of_getElem? (i := 178) (by decide +kernel)), by decide +kernel⟩
theorem tw_179 : Cond.fieldLink RX7 26 RX7 "brush" "LSootTalk$Brush;" ∈ js_good := List.mem_filter.mpr ⟨List.mem_append_right _ (List.mem_of_getElem? (i := 179) (by decide +kernel)), by decide +kernel⟩
theorem tw_180 : Cond.fieldLink RX7 33 RX7 "trial" "LSootTalk$Trial;" ∈ js_good := List.mem_filter.mpr ⟨List.mem_append_right _ (List.mem_of_getElem? (i := 180) (by decide +kernel)), by decide +kernel⟩
theorem tw_181 : Cond.fieldLink RX7 40 RX7 "tape" "LSootTalk$Tape;" ∈ js_good := List.mem_filter.mpr ⟨List.mem_append_right _ (List.mem_of_getElem? (i := 181) (by decide +kernel)), by decide +kernel⟩
theorem tw_182 : Cond.fieldLink RX7 47 RX7 "text" "LSootTalk$Text;" ∈ js_good := List.mem_filter.mpr ⟨List.mem_append_right _ (List.mem_of_getElem? (i := 182) (by decide +kernel)), by decide +kernel⟩
theorem tw_183 : Cond.fieldLink RX7 54 RX7 "sheets" "LSootTalk$Sheets;" ∈ js_good := List.mem_filter.mpr ⟨List.mem_append_right _ (List.mem_of_getElem? (i := 183) (by decide +kernel)), by decide +kernel⟩
theorem tw_184 : Cond.fieldLink RX7 58 RX7 "findings" "[I" ∈ js_good := List.mem_filter.mpr ⟨List.mem_append_right _ (List.mem_of_getElem? (i := 184) (by decide +kernel)), by decide +kernel⟩
theorem tw_185 : Cond.fieldLink RX7 62 RX7 "sets" "[I" ∈ js_good := List.mem_filter.mpr ⟨List.mem_append_right _ (List.mem_of_getElem? (i := 185) (by decide +kernel)), by decide +kernel⟩
theorem tw_208 : Cond.instanceMethod yX7_flue ∈ js_good := List.mem_filter.mpr ⟨List.mem_append_right _ (List.mem_of_getElem? (i := 208) (by decide +kernel)), by decide +kernel⟩
theorem tw_209 : Cond.selects RX7 yX7_flue yX7_flue ∈ js_good := List.mem_filter.mpr ⟨List.mem_append_right _ (List.mem_of_getElem? (i := 209) (by decide +kernel)), by decide +kernel⟩
theorem tw_210 : Cond.code yX7_flue cX7_flue 2 (some (FieldType.int)) ∈ js_good := List.mem_filter.mpr ⟨List.mem_append_right _ (List.mem_of_getElem? (i := 210) (by decide +kernel)), by decide +kernel⟩
theorem tw_211 : Cond.methodLink RX7 65 yX7_isKind ∈ js_good := List.mem_filter.mpr ⟨List.mem_append_right _ (List.mem_of_getElem? (i := 211) (by decide +kernel)), by decide +kernel⟩
theorem tw_212 : Cond.static yX7_isKind ∈ js_good := List.mem_filter.mpr ⟨List.mem_append_right _ (List.mem_of_getElem? (i := 212) (by decide +kernel)), by decide +kernel⟩
theorem tw_213 : Cond.code yX7_isKind cX7_isKind 1 (some (FieldType.boolean)) ∈ js_good := List.mem_filter.mpr ⟨List.mem_append_right _ (List.mem_of_getElem? (i := 213) (by decide +kernel)), by decide +kernel⟩
theorem tw_214 : Cond.methodLink RX7 119 yX7_isBelow ∈ js_good := List.mem_filter.mpr ⟨List.mem_append_right _ (List.mem_of_getElem? (i := 214) (by decide +kernel)), by decide +kernel⟩
theorem tw_215 : Cond.static yX7_isBelow ∈ js_good := List.mem_filter.mpr ⟨List.mem_append_right _ (List.mem_of_getElem? (i := 215) (by decide +kernel)), by decide +kernel⟩
theorem tw_216 : Cond.code yX7_isBelow cX7_isBelow 2 (some (FieldType.boolean)) ∈ js_good := List.mem_filter.mpr ⟨List.mem_append_right _ (List.mem_of_getElem? (i := 216) (by decide +kernel)), by decide +kernel⟩
theorem tw_217 : Cond.constant RX7 69 (-1000000001) ∈ js_good := List.mem_filter.mpr ⟨List.mem_append_right _ (List.mem_of_getElem? (i := 217) (by decide +kernel)), by decide +kernel⟩
theorem tw_218 : Cond.methodLink RX7 70 yX7_found ∈ js_good := List.mem_filter.mpr ⟨List.mem_append_right _ (List.mem_of_getElem? (i := 218) (by decide +kernel)), by decide +kernel⟩
theorem tw_220 : Cond.instanceMethod yX7_found ∈ js_good := List.mem_filter.mpr ⟨List.mem_append_right _ (List.mem_of_getElem? (i := 220) (by decide +kernel)), by decide +kernel⟩
theorem tw_221 : Cond.code yX7_found cX7_found 3 (some (FieldType.int)) ∈ js_good := List.mem_filter.mpr ⟨List.mem_append_right _ (List.mem_of_getElem? (i := 221) (by decide +kernel)), by decide +kernel⟩
theorem tw_222 : Cond.constant RX7 78 (-1000000002) ∈ js_good := List.mem_filter.mpr ⟨List.mem_append_right _ (List.mem_of_getElem? (i := 222) (by decide +kernel)), by decide +kernel⟩
theorem tw_223 : Cond.methodLink RX7 79 yX3_addFlue ∈ js_good := List.mem_filter.mpr ⟨List.mem_append_right _ (List.mem_of_getElem? (i := 223) (by decide +kernel)), by decide +kernel⟩
theorem tw_224 : Cond.instanceMethod yX3_addFlue ∈ js_good := List.mem_filter.mpr ⟨List.mem_append_right _ (List.mem_of_getElem? (i := 224) (by decide +kernel)), by decide +kernel⟩
theorem tw_225 : Cond.selects RX3 yX3_addFlue yX3_addFlue ∈ js_good := List.mem_filter.mpr ⟨List.mem_append_right _ (List.mem_of_getElem? (i := 225) (by decide +kernel)), by decide +kernel⟩
theorem tw_226 : Cond.code yX3_addFlue cX3_addFlue 3 (some (FieldType.int)) ∈ js_good := List.mem_filter.mpr ⟨List.mem_append_right _ (List.mem_of_getElem? (i := 226) (by decide +kernel)), by decide +kernel⟩
theorem tw_228 : Cond.instanceMethod yX7_of ∈ js_good := List.mem_filter.mpr ⟨List.mem_append_right _ (List.mem_of_getElem? (i := 228) (by decide +kernel)), by decide +kernel⟩
theorem tw_229 : Cond.selects RX7 yX7_of yX7_of ∈ js_good := List.mem_filter.mpr ⟨List.mem_append_right _ (List.mem_of_getElem? (i := 229) (by decide +kernel)), by decide +kernel⟩
theorem tw_230 : Cond.code yX7_of cX7_of 3 (some (FieldType.int)) ∈ js_good := List.mem_filter.mpr ⟨List.mem_append_right _ (List.mem_of_getElem? (i := 230) (by decide +kernel)), by decide +kernel⟩
theorem tw_231 : Cond.methodLink RX7 82 yX3_hasFlue ∈ js_good := List.mem_filter.mpr ⟨List.mem_append_right _ (List.mem_of_getElem? (i := 231) (by decide +kernel)), by decide +kernel⟩
theorem tw_232 : Cond.instanceMethod yX3_hasFlue ∈ js_good := List.mem_filter.mpr ⟨List.mem_append_right _ (List.mem_of_getElem? (i := 232) (by decide +kernel)), by decide +kernel⟩
theorem tw_233 : Cond.selects RX3 yX3_hasFlue yX3_hasFlue ∈ js_good := List.mem_filter.mpr ⟨List.mem_append_right _ (List.mem_of_getElem? (i := 233) (by decide +kernel)), by decide +kernel⟩
theorem tw_234 : Cond.code yX3_hasFlue cX3_hasFlue 2 (some (FieldType.boolean)) ∈ js_good := List.mem_filter.mpr ⟨List.mem_append_right _ (List.mem_of_getElem? (i := 234) (by decide +kernel)), by decide +kernel⟩
theorem tw_235 : Cond.methodLink RX7 85 yX3_kindOf ∈ js_good := List.mem_filter.mpr ⟨List.mem_append_right _ (List.mem_of_getElem? (i := 235) (by decide +kernel)), by decide +kernel⟩
theorem tw_236 : Cond.instanceMethod yX3_kindOf ∈ js_good := List.mem_filter.mpr ⟨List.mem_append_right _ (List.mem_of_getElem? (i := 236) (by decide +kernel)), by decide +kernel⟩
theorem tw_237 : Cond.selects RX3 yX3_kindOf yX3_kindOf ∈ js_good := List.mem_filter.mpr ⟨List.mem_append_right _ (List.mem_of_getElem? (i := 237) (by decide +kernel)), by decide +kernel⟩
theorem tw_238 : Cond.code yX3_kindOf cX3_kindOf 2 (some (FieldType.int)) ∈ js_good := List.mem_filter.mpr ⟨List.mem_append_right _ (List.mem_of_getElem? (i := 238) (by decide +kernel)), by decide +kernel⟩
theorem tw_239 : Cond.methodLink RX3 40 yX3_hasFlue ∈ js_good := List.mem_filter.mpr ⟨List.mem_append_right _ (List.mem_of_getElem? (i := 239) (by decide +kernel)), by decide +kernel⟩
theorem tw_240 : Cond.methodLink RX7 88 yX3_layersIn ∈ js_good := List.mem_filter.mpr ⟨List.mem_append_right _ (List.mem_of_getElem? (i := 240) (by decide +kernel)), by decide +kernel⟩
theorem tw_241 : Cond.instanceMethod yX3_layersIn ∈ js_good := List.mem_filter.mpr ⟨List.mem_append_right _ (List.mem_of_getElem? (i := 241) (by decide +kernel)), by decide +kernel⟩
theorem tw_242 : Cond.selects RX3 yX3_layersIn yX3_layersIn ∈ js_good := List.mem_filter.mpr ⟨List.mem_append_right _ (List.mem_of_getElem? (i := 242) (by decide +kernel)), by decide +kernel⟩
theorem tw_243 : Cond.code yX3_layersIn cX3_layersIn 4 (some (FieldType.int)) ∈ js_good := List.mem_filter.mpr ⟨List.mem_append_right _ (List.mem_of_getElem? (i := 243) (by decide +kernel)), by decide +kernel⟩
theorem tw_244 : Cond.methodLink RX3 47 yX3_height ∈ js_good := List.mem_filter.mpr ⟨List.mem_append_right _ (List.mem_of_getElem? (i := 244) (by decide +kernel)), by decide +kernel⟩
theorem tw_245 : Cond.instanceMethod yX3_height ∈ js_good := List.mem_filter.mpr ⟨List.mem_append_right _ (List.mem_of_getElem? (i := 245) (by decide +kernel)), by decide +kernel⟩
theorem tw_246 : Cond.selects RX3 yX3_height yX3_height ∈ js_good := List.mem_filter.mpr ⟨List.mem_append_right _ (List.mem_of_getElem? (i := 246) (by decide +kernel)), by decide +kernel⟩
theorem tw_247 : Cond.code yX3_height cX3_height 3 (some (FieldType.int)) ∈ js_good := List.mem_filter.mpr ⟨List.mem_append_right _ (List.mem_of_getElem? (i := 247) (by decide +kernel)), by decide +kernel⟩
theorem tw_249 : Cond.static yX7_isBend ∈ js_good := List.mem_filter.mpr ⟨List.mem_append_right _ (List.mem_of_getElem? (i := 249) (by decide +kernel)), by decide +kernel⟩
theorem tw_250 : Cond.code yX7_isBend cX7_isBend 1 (some (FieldType.boolean)) ∈ js_good := List.mem_filter.mpr ⟨List.mem_append_right _ (List.mem_of_getElem? (i := 250) (by decide +kernel)), by decide +kernel⟩
theorem tw_251 : Cond.methodLink RX7 91 yX3_wordsIn ∈ js_good := List.mem_filter.mpr ⟨List.mem_append_right _ (List.mem_of_getElem? (i := 251) (by decide +kernel)), by decide +kernel⟩
theorem tw_252 : Cond.instanceMethod yX3_wordsIn ∈ js_good := List.mem_filter.mpr ⟨List.mem_append_right _ (List.mem_of_getElem? (i := 252) (by decide +kernel)), by decide +kernel⟩
theorem tw_253 : Cond.selects RX3 yX3_wordsIn yX3_wordsIn ∈ js_good := List.mem_filter.mpr ⟨List.mem_append_right _ (List.mem_of_getElem? (i := 253) (by decide +kernel)), by decide +kernel⟩
theorem tw_254 : Cond.code yX3_wordsIn cX3_wordsIn 4 (some (FieldType.int)) ∈ js_good := List.mem_filter.mpr ⟨List.mem_append_right _ (List.mem_of_getElem? (i := 254) (by decide +kernel)), by decide +kernel⟩
theorem tw_255 : Cond.methodLink RX3 99 yX3_wordsOn ∈ js_good := List.mem_filter.mpr ⟨List.mem_append_right _ (List.mem_of_getElem? (i := 255) (by decide +kernel)), by decide +kernel⟩
theorem tw_256 : Cond.instanceMethod yX3_wordsOn ∈ js_good := List.mem_filter.mpr ⟨List.mem_append_right _ (List.mem_of_getElem? (i := 256) (by decide +kernel)), by decide +kernel⟩
theorem tw_257 : Cond.selects RX3 yX3_wordsOn yX3_wordsOn ∈ js_good := List.mem_filter.mpr ⟨List.mem_append_right _ (List.mem_of_getElem? (i := 257) (by decide +kernel)), by decide +kernel⟩
theorem tw_258 : Cond.code yX3_wordsOn cX3_wordsOn 7 (some (FieldType.int)) ∈ js_good := List.mem_filter.mpr ⟨List.mem_append_right _ (List.mem_of_getElem? (i := 258) (by decide +kernel)), by decide +kernel⟩
theorem tw_259 : Cond.methodLink RX3 55 yX3_place ∈ js_good := List.mem_filter.mpr ⟨List.mem_append_right _ (List.mem_of_getElem? (i := 259) (by decide +kernel)), by decide +kernel⟩
theorem tw_261 : Cond.instanceMethod yX3_place ∈ js_good := List.mem_filter.mpr ⟨List.mem_append_right _ (List.mem_of_getElem? (i := 261) (by decide +kernel)), by decide +kernel⟩
theorem tw_262 : Cond.code yX3_place cX3_place 4 (some (FieldType.int)) ∈ js_good := List.mem_filter.mpr ⟨List.mem_append_right _ (List.mem_of_getElem? (i := 262) (by decide +kernel)), by decide +kernel⟩
theorem tw_263 : Cond.methodLink RX7 94 yX3_bareBends ∈ js_good := List.mem_filter.mpr ⟨List.mem_append_right _ (List.mem_of_getElem? (i := 263) (by decide +kernel)), by decide +kernel⟩
theorem tw_264 : Cond.instanceMethod yX3_bareBends ∈ js_good := List.mem_filter.mpr ⟨List.mem_append_right _ (List.mem_of_getElem? (i := 264) (by decide +kernel)), by decide +kernel⟩
theorem tw_265 : Cond.selects RX3 yX3_bareBends yX3_bareBends ∈ js_good := List.mem_filter.mpr ⟨List.mem_append_right _ (List.mem_of_getElem? (i := 265) (by decide +kernel)), by decide +kernel⟩
theorem tw_266 : Cond.code yX3_bareBends cX3_bareBends 4 (some (FieldType.int)) ∈ js_good := List.mem_filter.mpr ⟨List.mem_append_right _ (List.mem_of_getElem? (i := 266) (by decide +kernel)), by decide +kernel⟩
theorem tw_267 : Cond.methodLink RX7 100 yX1_cakes ∈ js_good := List.mem_filter.mpr ⟨List.mem_append_right _ (List.mem_of_getElem? (i := 267) (by decide +kernel)), by decide +kernel⟩
theorem tw_268 : Cond.static yX1_cakes ∈ js_good := List.mem_filter.mpr ⟨List.mem_append_right _ (List.mem_of_getElem? (i := 268) (by decide +kernel)), by decide +kernel⟩
theorem tw_269 : Cond.code yX1_cakes cX1_cakes 4 (some (FieldType.int)) ∈ js_good := List.mem_filter.mpr ⟨List.mem_append_right _ (List.mem_of_getElem? (i := 269) (by decide +kernel)), by decide +kernel⟩
theorem tw_270 : Cond.methodLink RX1 15 Lib.Math.max.name ∈ js_good := List.mem_filter.mpr ⟨List.mem_append_right _ (List.mem_of_getElem? (i := 270) (by decide +kernel)), by decide +kernel⟩
theorem tw_271 : Cond.static Lib.Math.max.name ∈ js_good := List.mem_filter.mpr ⟨List.mem_append_right _ (List.mem_of_getElem? (i := 271) (by decide +kernel)), by decide +kernel⟩
theorem tw_272 : Cond.code Lib.Math.max.name Lib.Math.max.code 2 (some (FieldType.int)) ∈ js_good := List.mem_filter.mpr ⟨List.mem_append_right _ (List.mem_of_getElem? (i := 272) (by decide +kernel)), by decide +kernel⟩
theorem tw_274 : Cond.instanceMethod yX7_bend ∈ js_good := List.mem_filter.mpr ⟨List.mem_append_right _ (List.mem_of_getElem? (i := 274) (by decide +kernel)), by decide +kernel⟩
theorem tw_275 : Cond.selects RX7 yX7_bend yX7_bend ∈ js_good := List.mem_filter.mpr ⟨List.mem_append_right _ (List.mem_of_getElem? (i := 275) (by decide +kernel)), by decide +kernel⟩
theorem tw_276 : Cond.code yX7_bend cX7_bend 4 (some (FieldType.int)) ∈ js_good := List.mem_filter.mpr ⟨List.mem_append_right _ (List.mem_of_getElem? (i := 276) (by decide +kernel)), by decide +kernel⟩
theorem tw_277 : Cond.methodLink RX7 106 yX7_isPlace ∈ js_good := List.mem_filter.mpr ⟨List.mem_append_right _ (List.mem_of_getElem? (i := 277) (by decide +kernel)), by decide +kernel⟩
theorem tw_279 : Cond.instanceMethod yX7_isPlace ∈ js_good := List.mem_filter.mpr ⟨List.mem_append_right _ (List.mem_of_getElem? (i := 279) (by decide +kernel)), by decide +kernel⟩
theorem tw_280 : Cond.code yX7_isPlace cX7_isPlace 3 (some (FieldType.boolean)) ∈ js_good := List.mem_filter.mpr ⟨List.mem_append_right _ (List.mem_of_getElem? (i := 280) (by decide +kernel)), by decide +kernel⟩
theorem tw_281 : Cond.methodLink RX7 297 yX7_isBend ∈ js_good := List.mem_filter.mpr ⟨List.mem_append_right _ (List.mem_of_getElem? (i := 281) (by decide +kernel)), by decide +kernel⟩
theorem tw_282 : Cond.methodLink RX7 110 yX3_height ∈ js_good := List.mem_filter.mpr ⟨List.mem_append_right _ (List.mem_of_getElem? (i := 282) (by decide +kernel)), by decide +kernel⟩
theorem tw_283 : Cond.methodLink RX7 113 yX1_holds ∈ js_good := List.mem_filter.mpr ⟨List.mem_append_right _ (List.mem_of_getElem? (i := 283) (by decide +kernel)), by decide +kernel⟩
theorem tw_284 : Cond.static yX1_holds ∈ js_good := List.mem_filter.mpr ⟨List.mem_append_right _ (List.mem_of_getElem? (i := 284) (by decide +kernel)), by decide +kernel⟩
theorem tw_285 : Cond.code yX1_holds cX1_holds 4 (some (FieldType.int)) ∈ js_good := List.mem_filter.mpr ⟨List.mem_append_right _ (List.mem_of_getElem? (i := 285) (by decide +kernel)), by decide +kernel⟩
theorem tw_286 : Cond.methodLink RX7 116 yX3_wordsOn ∈ js_good := List.mem_filter.mpr ⟨List.mem_append_right _ (List.mem_of_getElem? (i := 286) (by decide +kernel)), by decide +kernel⟩
theorem tw_288 : Cond.instanceMethod yX7_layer ∈ js_good := List.mem_filter.mpr ⟨List.mem_append_right _ (List.mem_of_getElem? (i := 288) (by decide +kernel)), by decide +kernel⟩
theorem tw_289 : Cond.selects RX7 yX7_layer yX7_layer ∈ js_good := List.mem_filter.mpr ⟨List.mem_append_right _ (List.mem_of_getElem? (i := 289) (by decide +kernel)), by decide +kernel⟩
theorem tw_290 : Cond.code yX7_layer cX7_layer 5 (some (FieldType.int)) ∈ js_good := List.mem_filter.mpr ⟨List.mem_append_right _ (List.mem_of_getElem? (i := 290) (by decide +kernel)), by decide +kernel⟩
theorem tw_291 : Cond.methodLink RX7 122 yX3_hasLayer ∈ js_good := List.mem_filter.mpr ⟨List.mem_append_right _ (List.mem_of_getElem? (i := 291) (by decide +kernel)), by decide +kernel⟩
theorem tw_292 : Cond.instanceMethod yX3_hasLayer ∈ js_good := List.mem_filter.mpr ⟨List.mem_append_right _ (List.mem_of_getElem? (i := 292) (by decide +kernel)), by decide +kernel⟩
theorem tw_293 : Cond.selects RX3 yX3_hasLayer yX3_hasLayer ∈ js_good := List.mem_filter.mpr ⟨List.mem_append_right _ (List.mem_of_getElem? (i := 293) (by decide +kernel)), by decide +kernel⟩
theorem tw_294 : Cond.code yX3_hasLayer cX3_hasLayer 4 (some (FieldType.boolean)) ∈ js_good := List.mem_filter.mpr ⟨List.mem_append_right _ (List.mem_of_getElem? (i := 294) (by decide +kernel)), by decide +kernel⟩
theorem tw_295 : Cond.constant RX7 126 (-1000000004) ∈ js_good := List.mem_filter.mpr ⟨List.mem_append_right _ (List.mem_of_getElem? (i := 295) (by decide +kernel)), by decide +kernel⟩
theorem tw_296 : Cond.methodLink RX7 127 yX3_wordAt ∈ js_good := List.mem_filter.mpr ⟨List.mem_append_right _ (List.mem_of_getElem? (i := 296) (by decide +kernel)), by decide +kernel⟩
theorem tw_297 : Cond.instanceMethod yX3_wordAt ∈ js_good := List.mem_filter.mpr ⟨List.mem_append_right _ (List.mem_of_getElem? (i := 297) (by decide +kernel)), by decide +kernel⟩
theorem tw_298 : Cond.selects RX3 yX3_wordAt yX3_wordAt ∈ js_good := List.mem_filter.mpr ⟨List.mem_append_right _ (List.mem_of_getElem? (i := 298) (by decide +kernel)), by decide +kernel⟩
theorem tw_299 : Cond.code yX3_wordAt cX3_wordAt 4 (some (FieldType.int)) ∈ js_good := List.mem_filter.mpr ⟨List.mem_append_right _ (List.mem_of_getElem? (i := 299) (by decide +kernel)), by decide +kernel⟩
theorem tw_300 : Cond.methodLink RX3 51 yX3_hasLayer ∈ js_good := List.mem_filter.mpr ⟨List.mem_append_right _ (List.mem_of_getElem? (i := 300) (by decide +kernel)), by decide +kernel⟩
theorem tw_301 : Cond.methodLink RX7 131 yX3_cakeAt ∈ js_good := List.mem_filter.mpr ⟨List.mem_append_right _ (List.mem_of_getElem? (i := 301) (by decide +kernel)), by decide +kernel⟩
theorem tw_302 : Cond.instanceMethod yX3_cakeAt ∈ js_good := List.mem_filter.mpr ⟨List.mem_append_right _ (List.mem_of_getElem? (i := 302) (by decide +kernel)), by decide +kernel⟩
theorem tw_303 : Cond.selects RX3 yX3_cakeAt yX3_cakeAt ∈ js_good := List.mem_filter.mpr ⟨List.mem_append_right _ (List.mem_of_getElem? (i := 303) (by decide +kernel)), by decide +kernel⟩
theorem tw_304 : Cond.code yX3_cakeAt cX3_cakeAt 4 (some (FieldType.int)) ∈ js_good := List.mem_filter.mpr ⟨List.mem_append_right _ (List.mem_of_getElem? (i := 304) (by decide +kernel)), by decide +kernel⟩
theorem tw_306 : Cond.instanceMethod yX7_turn ∈ js_good := List.mem_filter.mpr ⟨List.mem_append_right _ (List.mem_of_getElem? (i := 306) (by decide +kernel)), by decide +kernel⟩
theorem tw_307 : Cond.selects RX7 yX7_turn yX7_turn ∈ js_good := List.mem_filter.mpr ⟨List.mem_append_right _ (List.mem_of_getElem? (i := 307) (by decide +kernel)), by decide +kernel⟩
theorem tw_308 : Cond.code yX7_turn cX7_turn 4 (some (FieldType.int)) ∈ js_good := List.mem_filter.mpr ⟨List.mem_append_right _ (List.mem_of_getElem? (i := 308) (by decide +kernel)), by decide +kernel⟩
theorem tw_309 : Cond.methodLink RX7 134 yX3_setKind ∈ js_good := List.mem_filter.mpr ⟨List.mem_append_right _ (List.mem_of_getElem? (i := 309) (by decide +kernel)), by decide +kernel⟩
theorem tw_310 : Cond.instanceMethod yX3_setKind ∈ js_good := List.mem_filter.mpr ⟨List.mem_append_right _ (List.mem_of_getElem? (i := 310) (by decide +kernel)), by decide +kernel⟩
theorem tw_311 : Cond.selects RX3 yX3_setKind yX3_setKind ∈ js_good := List.mem_filter.mpr ⟨List.mem_append_right _ (List.mem_of_getElem? (i := 311) (by decide +kernel)), by decide +kernel⟩
theorem tw_312 : Cond.code yX3_setKind cX3_setKind 3 none ∈ js_good := List.mem_filter.mpr ⟨List.mem_append_right _ (List.mem_of_getElem? (i := 312) (by decide +kernel)), by decide +kernel⟩
theorem tw_314 : Cond.instanceMethod yX7_as ∈ js_good := List.mem_filter.mpr ⟨List.mem_append_right _ (List.mem_of_getElem? (i := 314) (by decide +kernel)), by decide +kernel⟩
theorem tw_315 : Cond.selects RX7 yX7_as yX7_as ∈ js_good := List.mem_filter.mpr ⟨List.mem_append_right _ (List.mem_of_getElem? (i := 315) (by decide +kernel)), by decide +kernel⟩
theorem tw_316 : Cond.code yX7_as cX7_as 3 (some (FieldType.int)) ∈ js_good := List.mem_filter.mpr ⟨List.mem_append_right _ (List.mem_of_getElem? (i := 316) (by decide +kernel)), by decide +kernel⟩
theorem tw_317 : Cond.methodLink RX7 138 yX1_isOrIsUnder ∈ js_good := List.mem_filter.mpr ⟨List.mem_append_right _ (List.mem_of_getElem? (i := 317) (by decide +kernel)), by decide +kernel⟩
theorem tw_318 : Cond.static yX1_isOrIsUnder ∈ js_good := List.mem_filter.mpr ⟨List.mem_append_right _ (List.mem_of_getElem? (i := 318) (by decide +kernel)), by decide +kernel⟩
theorem tw_319 : Cond.code yX1_isOrIsUnder cX1_isOrIsUnder 4 (some (FieldType.boolean)) ∈ js_good := List.mem_filter.mpr ⟨List.mem_append_right _ (List.mem_of_getElem? (i := 319) (by decide +kernel)), by decide +kernel⟩
theorem tw_320 : Cond.fieldLink RX1 9 RX1 "ABOVE" "[I" ∈ js_good := List.mem_filter.mpr ⟨List.mem_append_right _ (List.mem_of_getElem? (i := 320) (by decide +kernel)), by decide +kernel⟩
theorem tw_322 : Cond.constant RX7 141 (-1000000003) ∈ js_good := List.mem_filter.mpr ⟨List.mem_append_right _ (List.mem_of_getElem? (i := 322) (by decide +kernel)), by decide +kernel⟩
theorem tw_324 : Cond.instanceMethod yX7_damp ∈ js_good := List.mem_filter.mpr ⟨List.mem_append_right _ (List.mem_of_getElem? (i := 324) (by decide +kernel)), by decide +kernel⟩
theorem tw_325 : Cond.selects RX7 yX7_damp yX7_damp ∈ js_good := List.mem_filter.mpr ⟨List.mem_append_right _ (List.mem_of_getElem? (i := 325) (by decide +kernel)), by decide +kernel⟩
theorem tw_326 : Cond.code yX7_damp cX7_damp 3 (some (FieldType.int)) ∈ js_good := List.mem_filter.mpr ⟨List.mem_append_right _ (List.mem_of_getElem? (i := 326) (by decide +kernel)), by decide +kernel⟩
theorem tw_328 : Cond.instanceMethod yX7_rises ∈ js_good := List.mem_filter.mpr ⟨List.mem_append_right _ (List.mem_of_getElem? (i := 328) (by decide +kernel)), by decide +kernel⟩
theorem tw_329 : Cond.selects RX7 yX7_rises yX7_rises ∈ js_good := List.mem_filter.mpr ⟨List.mem_append_right _ (List.mem_of_getElem? (i := 329) (by decide +kernel)), by decide +kernel⟩
theorem tw_330 : Cond.code yX7_rises cX7_rises 5 (some (FieldType.int)) ∈ js_good := List.mem_filter.mpr ⟨List.mem_append_right _ (List.mem_of_getElem? (i := 330) (by decide +kernel)), by decide +kernel⟩
theorem tw_331 : Cond.methodLink RX7 142 yX7_isWord ∈ js_good := List.mem_filter.mpr ⟨List.mem_append_right _ (List.mem_of_getElem? (i := 331) (by decide +kernel)), by decide +kernel⟩
theorem tw_332 : Cond.static yX7_isWord ∈ js_good := List.mem_filter.mpr ⟨List.mem_append_right _ (List.mem_of_getElem? (i := 332) (by decide +kernel)), by decide +kernel⟩
theorem tw_333 : Cond.code yX7_isWord cX7_isWord 1 (some (FieldType.boolean)) ∈ js_good := List.mem_filter.mpr ⟨List.mem_append_right _ (List.mem_of_getElem? (i := 333) (by decide +kernel)), by decide +kernel⟩
theorem tw_334 : Cond.methodLink RX7 145 yX7_isVoice ∈ js_good := List.mem_filter.mpr ⟨List.mem_append_right _ (List.mem_of_getElem? (i := 334) (by decide +kernel)), by decide +kernel⟩
theorem tw_335 : Cond.static yX7_isVoice ∈ js_good := List.mem_filter.mpr ⟨List.mem_append_right _ (List.mem_of_getElem? (i := 335) (by decide +kernel)), by decide +kernel⟩
theorem tw_336 : Cond.code yX7_isVoice cX7_isVoice 1 (some (FieldType.boolean)) ∈ js_good := List.mem_filter.mpr ⟨List.mem_append_right _ (List.mem_of_getElem? (i := 336) (by decide +kernel)), by decide +kernel⟩
theorem tw_337 : Cond.methodLink RX7 151 yX1_rise ∈ js_good := List.mem_filter.mpr ⟨List.mem_append_right _ (List.mem_of_getElem? (i := 337) (by decide +kernel)), by decide +kernel⟩
theorem tw_338 : Cond.static yX1_rise ∈ js_good := List.mem_filter.mpr ⟨List.mem_append_right _ (List.mem_of_getElem? (i := 338) (by decide +kernel)), by decide +kernel⟩
theorem tw_339 : Cond.code yX1_rise cX1_rise 7 (some (FieldType.int)) ∈ js_good := List.mem_filter.mpr ⟨List.mem_append_right _ (List.mem_of_getElem? (i := 339) (by decide +kernel)), by decide +kernel⟩
theorem tw_340 : Cond.methodLink RX1 21 Lib.Math.min.name ∈ js_good := List.mem_filter.mpr ⟨List.mem_append_right _ (List.mem_of_getElem? (i := 340) (by decide +kernel)), by decide +kernel⟩
theorem tw_341 : Cond.static Lib.Math.min.name ∈ js_good := List.mem_filter.mpr ⟨List.mem_append_right _ (List.mem_of_getElem? (i := 341) (by decide +kernel)), by decide +kernel⟩
theorem tw_342 : Cond.code Lib.Math.min.name Lib.Math.min.code 2 (some (FieldType.int)) ∈ js_good := List.mem_filter.mpr ⟨List.mem_append_right _ (List.mem_of_getElem? (i := 342) (by decide +kernel)), by decide +kernel⟩
theorem tw_344 : Cond.instanceMethod yX7_say ∈ js_good := List.mem_filter.mpr ⟨List.mem_append_right _ (List.mem_of_getElem? (i := 344) (by decide +kernel)), by decide +kernel⟩
theorem tw_345 : Cond.selects RX7 yX7_say yX7_say ∈ js_good := List.mem_filter.mpr ⟨List.mem_append_right _ (List.mem_of_getElem? (i := 345) (by decide +kernel)), by decide +kernel⟩
theorem tw_346 : Cond.code yX7_say cX7_say 4 (some (FieldType.int)) ∈ js_good := List.mem_filter.mpr ⟨List.mem_append_right _ (List.mem_of_getElem? (i := 346) (by decide +kernel)), by decide +kernel⟩
theorem tw_347 : Cond.methodLink RX7 155 yX3_speak ∈ js_good := List.mem_filter.mpr ⟨List.mem_append_right _ (List.mem_of_getElem? (i := 347) (by decide +kernel)), by decide +kernel⟩
theorem tw_348 : Cond.instanceMethod yX3_speak ∈ js_good := List.mem_filter.mpr ⟨List.mem_append_right _ (List.mem_of_getElem? (i := 348) (by decide +kernel)), by decide +kernel⟩
theorem tw_349 : Cond.selects RX3 yX3_speak yX3_speak ∈ js_good := List.mem_filter.mpr ⟨List.mem_append_right _ (List.mem_of_getElem? (i := 349) (by decide +kernel)), by decide +kernel⟩
theorem tw_350 : Cond.code yX3_speak cX3_speak 5 (some (FieldType.int)) ∈ js_good := List.mem_filter.mpr ⟨List.mem_append_right _ (List.mem_of_getElem? (i := 350) (by decide +kernel)), by decide +kernel⟩
theorem tw_351 : Cond.methodLink RX3 76 yX3_landing ∈ js_good := List.mem_filter.mpr ⟨List.mem_append_right _ (List.mem_of_getElem? (i := 351) (by decide +kernel)), by decide +kernel⟩
theorem tw_352 : Cond.instanceMethod yX3_landing ∈ js_good := List.mem_filter.mpr ⟨List.mem_append_right _ (List.mem_of_getElem? (i := 352) (by decide +kernel)), by decide +kernel⟩
theorem tw_353 : Cond.selects RX3 yX3_landing yX3_landing ∈ js_good := List.mem_filter.mpr ⟨List.mem_append_right _ (List.mem_of_getElem? (i := 353) (by decide +kernel)), by decide +kernel⟩
theorem tw_354 : Cond.code yX3_landing cX3_landing 5 (some (FieldType.int)) ∈ js_good := List.mem_filter.mpr ⟨List.mem_append_right _ (List.mem_of_getElem? (i := 354) (by decide +kernel)), by decide +kernel⟩
theorem tw_355 : Cond.methodLink RX3 59 yX3_kindOf ∈ js_good := List.mem_filter.mpr ⟨List.mem_append_right _ (List.mem_of_getElem? (i := 355) (by decide +kernel)), by decide +kernel⟩
theorem tw_356 : Cond.methodLink RX3 68 yX1_rise ∈ js_good := List.mem_filter.mpr ⟨List.mem_append_right _ (List.mem_of_getElem? (i := 356) (by decide +kernel)), by decide +kernel⟩
theorem tw_357 : Cond.methodLink RX3 72 yX1_settle ∈ js_good := List.mem_filter.mpr ⟨List.mem_append_right _ (List.mem_of_getElem? (i := 357) (by decide +kernel)), by decide +kernel⟩
theorem tw_358 : Cond.static yX1_settle ∈ js_good := List.mem_filter.mpr ⟨List.mem_append_right _ (List.mem_of_getElem? (i := 358) (by decide +kernel)), by decide +kernel⟩
theorem tw_359 : Cond.code yX1_settle cX1_settle 6 (some (FieldType.int)) ∈ js_good := List.mem_filter.mpr ⟨List.mem_append_right _ (List.mem_of_getElem? (i := 359) (by decide +kernel)), by decide +kernel⟩
theorem tw_360 : Cond.methodLink RX1 36 yX1_holds ∈ js_good := List.mem_filter.mpr ⟨List.mem_append_right _ (List.mem_of_getElem? (i := 360) (by decide +kernel)), by decide +kernel⟩
theorem tw_361 : Cond.methodLink RX3 79 yX3_lay ∈ js_good := List.mem_filter.mpr ⟨List.mem_append_right _ (List.mem_of_getElem? (i := 361) (by decide +kernel)), by decide +kernel⟩
theorem tw_362 : Cond.instanceMethod yX3_lay ∈ js_good := List.mem_filter.mpr ⟨List.mem_append_right _ (List.mem_of_getElem? (i := 362) (by decide +kernel)), by decide +kernel⟩
theorem tw_363 : Cond.selects RX3 yX3_lay yX3_lay ∈ js_good := List.mem_filter.mpr ⟨List.mem_append_right _ (List.mem_of_getElem? (i := 363) (by decide +kernel)), by decide +kernel⟩
theorem tw_364 : Cond.code yX3_lay cX3_lay 7 none ∈ js_good := List.mem_filter.mpr ⟨List.mem_append_right _ (List.mem_of_getElem? (i := 364) (by decide +kernel)), by decide +kernel⟩
theorem tw_365 : Cond.methodLink RX3 63 yX1_holds ∈ js_good := List.mem_filter.mpr ⟨List.mem_append_right _ (List.mem_of_getElem? (i := 365) (by decide +kernel)), by decide +kernel⟩
theorem tw_367 : Cond.instanceMethod yX7_cake ∈ js_good := List.mem_filter.mpr ⟨List.mem_append_right _ (List.mem_of_getElem? (i := 367) (by decide +kernel)), by decide +kernel⟩
theorem tw_368 : Cond.selects RX7 yX7_cake yX7_cake ∈ js_good := List.mem_filter.mpr ⟨List.mem_append_right _ (List.mem_of_getElem? (i := 368) (by decide +kernel)), by decide +kernel⟩
theorem tw_369 : Cond.code yX7_cake cX7_cake 6 (some (FieldType.int)) ∈ js_good := List.mem_filter.mpr ⟨List.mem_append_right _ (List.mem_of_getElem? (i := 369) (by decide +kernel)), by decide +kernel⟩
theorem tw_370 : Cond.methodLink RX7 158 yX3_setCake ∈ js_good := List.mem_filter.mpr ⟨List.mem_append_right _ (List.mem_of_getElem? (i := 370) (by decide +kernel)), by decide +kernel⟩
theorem tw_371 : Cond.instanceMethod yX3_setCake ∈ js_good := List.mem_filter.mpr ⟨List.mem_append_right _ (List.mem_of_getElem? (i := 371) (by decide +kernel)), by decide +kernel⟩
theorem tw_372 : Cond.selects RX3 yX3_setCake yX3_setCake ∈ js_good := List.mem_filter.mpr ⟨List.mem_append_right _ (List.mem_of_getElem? (i := 372) (by decide +kernel)), by decide +kernel⟩
theorem tw_373 : Cond.code yX3_setCake cX3_setCake 5 none ∈ js_good := List.mem_filter.mpr ⟨List.mem_append_right _ (List.mem_of_getElem? (i := 373) (by decide +kernel)), by decide +kernel⟩
theorem tw_375 : Cond.instanceMethod yX7_days ∈ js_good := List.mem_filter.mpr ⟨List.mem_append_right _ (List.mem_of_getElem? (i := 375) (by decide +kernel)), by decide +kernel⟩
theorem tw_376 : Cond.selects RX7 yX7_days yX7_days ∈ js_good := List.mem_filter.mpr ⟨List.mem_append_right _ (List.mem_of_getElem? (i := 376) (by decide +kernel)), by decide +kernel⟩
theorem tw_377 : Cond.code yX7_days cX7_days 2 (some (FieldType.int)) ∈ js_good := List.mem_filter.mpr ⟨List.mem_append_right _ (List.mem_of_getElem? (i := 377) (by decide +kernel)), by decide +kernel⟩
theorem tw_378 : Cond.constant RX7 162 (-1000000005) ∈ js_good := List.mem_filter.mpr ⟨List.mem_append_right _ (List.mem_of_getElem? (i := 378) (by decide +kernel)), by decide +kernel⟩
theorem tw_379 : Cond.methodLink RX7 163 yX3_passDays ∈ js_good := List.mem_filter.mpr ⟨List.mem_append_right _ (List.mem_of_getElem? (i := 379) (by decide +kernel)), by decide +kernel⟩
theorem tw_380 : Cond.instanceMethod yX3_passDays ∈ js_good := List.mem_filter.mpr ⟨List.mem_append_right _ (List.mem_of_getElem? (i := 380) (by decide +kernel)), by decide +kernel⟩
theorem tw_381 : Cond.selects RX3 yX3_passDays yX3_passDays ∈ js_good := List.mem_filter.mpr ⟨List.mem_append_right _ (List.mem_of_getElem? (i := 381) (by decide +kernel)), by decide +kernel⟩
theorem tw_382 : Cond.code yX3_passDays cX3_passDays 6 none ∈ js_good := List.mem_filter.mpr ⟨List.mem_append_right _ (List.mem_of_getElem? (i := 382) (by decide +kernel)), by decide +kernel⟩
theorem tw_383 : Cond.methodLink RX3 83 yX1_cakes ∈ js_good := List.mem_filter.mpr ⟨List.mem_append_right _ (List.mem_of_getElem? (i := 383) (by decide +kernel)), by decide +kernel⟩
theorem tw_384 : Cond.methodLink RX3 85 yX3_cakeAt ∈ js_good := List.mem_filter.mpr ⟨List.mem_append_right _ (List.mem_of_getElem? (i := 384) (by decide +kernel)), by decide +kernel⟩
theorem tw_385 : Cond.methodLink RX3 88 Lib.Math.min.name ∈ js_good := List.mem_filter.mpr ⟨List.mem_append_right _ (List.mem_of_getElem? (i := 385) (by decide +kernel)), by decide +kernel⟩
theorem tw_386 : Cond.methodLink RX3 93 yX3_setCake ∈ js_good := List.mem_filter.mpr ⟨List.mem_append_right _ (List.mem_of_getElem? (i := 386) (by decide +kernel)), by decide +kernel⟩
theorem tw_387 : Cond.methodLink RX7 167 yX3_layersOfCake ∈ js_good := List.mem_filter.mpr ⟨List.mem_append_right _ (List.mem_of_getElem? (i := 387) (by decide +kernel)), by decide +kernel⟩
theorem tw_388 : Cond.instanceMethod yX3_layersOfCake ∈ js_good := List.mem_filter.mpr ⟨List.mem_append_right _ (List.mem_of_getElem? (i := 388) (by decide +kernel)), by decide +kernel⟩
theorem tw_389 : Cond.selects RX3 yX3_layersOfCake yX3_layersOfCake ∈ js_good := List.mem_filter.mpr ⟨List.mem_append_right _ (List.mem_of_getElem? (i := 389) (by decide +kernel)), by decide +kernel⟩
theorem tw_390 : Cond.code yX3_layersOfCake cX3_layersOfCake 6 (some (FieldType.int)) ∈ js_good := List.mem_filter.mpr ⟨List.mem_append_right _ (List.mem_of_getElem? (i := 390) (by decide +kernel)), by decide +kernel⟩
theorem tw_392 : Cond.instanceMethod yX7_now ∈ js_good := List.mem_filter.mpr ⟨List.mem_append_right _ (List.mem_of_getElem? (i := 392) (by decide +kernel)), by decide +kernel⟩
theorem tw_393 : Cond.selects RX7 yX7_now yX7_now ∈ js_good := List.mem_filter.mpr ⟨List.mem_append_right _ (List.mem_of_getElem? (i := 393) (by decide +kernel)), by decide +kernel⟩
theorem tw_394 : Cond.code yX7_now cX7_now 2 (some (FieldType.int)) ∈ js_good := List.mem_filter.mpr ⟨List.mem_append_right _ (List.mem_of_getElem? (i := 394) (by decide +kernel)), by decide +kernel⟩
theorem tw_395 : Cond.methodLink RX7 170 yX3_allLayers ∈ js_good := List.mem_filter.mpr ⟨List.mem_append_right _ (List.mem_of_getElem? (i := 395) (by decide +kernel)), by decide +kernel⟩
theorem tw_396 : Cond.instanceMethod yX3_allLayers ∈ js_good := List.mem_filter.mpr ⟨List.mem_append_right _ (List.mem_of_getElem? (i := 396) (by decide +kernel)), by decide +kernel⟩
theorem tw_397 : Cond.selects RX3 yX3_allLayers yX3_allLayers ∈ js_good := List.mem_filter.mpr ⟨List.mem_append_right _ (List.mem_of_getElem? (i := 397) (by decide +kernel)), by decide +kernel⟩
theorem tw_398 : Cond.code yX3_allLayers cX3_allLayers 3 (some (FieldType.int)) ∈ js_good := List.mem_filter.mpr ⟨List.mem_append_right _ (List.mem_of_getElem? (i := 398) (by decide +kernel)), by decide +kernel⟩
theorem tw_399 : Cond.methodLink RX3 106 yX3_layersIn ∈ js_good := List.mem_filter.mpr ⟨List.mem_append_right _ (List.mem_of_getElem? (i := 399) (by decide +kernel)), by decide +kernel⟩
theorem tw_400 : Cond.methodLink RX7 174 yX3_allWords ∈ js_good := List.mem_filter.mpr ⟨List.mem_append_right _ (List.mem_of_getElem? (i := 400) (by decide +kernel)), by decide +kernel⟩
theorem tw_401 : Cond.instanceMethod yX3_allWords ∈ js_good := List.mem_filter.mpr ⟨List.mem_append_right _ (List.mem_of_getElem? (i := 401) (by decide +kernel)), by decide +kernel⟩
theorem tw_402 : Cond.selects RX3 yX3_allWords yX3_allWords ∈ js_good := List.mem_filter.mpr ⟨List.mem_append_right _ (List.mem_of_getElem? (i := 402) (by decide +kernel)), by decide +kernel⟩
theorem tw_403 : Cond.code yX3_allWords cX3_allWords 3 (some (FieldType.int)) ∈ js_good := List.mem_filter.mpr ⟨List.mem_append_right _ (List.mem_of_getElem? (i := 403) (by decide +kernel)), by decide +kernel⟩
theorem tw_404 : Cond.methodLink RX3 109 yX3_wordsIn ∈ js_good := List.mem_filter.mpr ⟨List.mem_append_right _ (List.mem_of_getElem? (i := 404) (by decide +kernel)), by decide +kernel⟩
theorem tw_405 : Cond.methodLink RX7 177 yX3_allCake ∈ js_good := List.mem_filter.mpr ⟨List.mem_append_right _ (List.mem_of_getElem? (i := 405) (by decide +kernel)), by decide +kernel⟩
theorem tw_406 : Cond.instanceMethod yX3_allCake ∈ js_good := List.mem_filter.mpr ⟨List.mem_append_right _ (List.mem_of_getElem? (i := 406) (by decide +kernel)), by decide +kernel⟩
theorem tw_407 : Cond.selects RX3 yX3_allCake yX3_allCake ∈ js_good := List.mem_filter.mpr ⟨List.mem_append_right _ (List.mem_of_getElem? (i := 407) (by decide +kernel)), by decide +kernel⟩
theorem tw_408 : Cond.code yX3_allCake cX3_allCake 5 (some (FieldType.int)) ∈ js_good := List.mem_filter.mpr ⟨List.mem_append_right _ (List.mem_of_getElem? (i := 408) (by decide +kernel)), by decide +kernel⟩
theorem tw_410 : Cond.instanceMethod yX7_sweep ∈ js_good := List.mem_filter.mpr ⟨List.mem_append_right _ (List.mem_of_getElem? (i := 410) (by decide +kernel)), by decide +kernel⟩
theorem tw_411 : Cond.selects RX7 yX7_sweep yX7_sweep ∈ js_good := List.mem_filter.mpr ⟨List.mem_append_right _ (List.mem_of_getElem? (i := 411) (by decide +kernel)), by decide +kernel⟩
theorem tw_412 : Cond.code yX7_sweep cX7_sweep 4 (some (FieldType.int)) ∈ js_good := List.mem_filter.mpr ⟨List.mem_append_right _ (List.mem_of_getElem? (i := 412) (by decide +kernel)), by decide +kernel⟩
theorem tw_413 : Cond.methodLink RX7 180 yX7_isStrength ∈ js_good := List.mem_filter.mpr ⟨List.mem_append_right _ (List.mem_of_getElem? (i := 413) (by decide +kernel)), by decide +kernel⟩
theorem tw_414 : Cond.static yX7_isStrength ∈ js_good := List.mem_filter.mpr ⟨List.mem_append_right _ (List.mem_of_getElem? (i := 414) (by decide +kernel)), by decide +kernel⟩
theorem tw_415 : Cond.code yX7_isStrength cX7_isStrength 1 (some (FieldType.boolean)) ∈ js_good := List.mem_filter.mpr ⟨List.mem_append_right _ (List.mem_of_getElem? (i := 415) (by decide +kernel)), by decide +kernel⟩
theorem tw_416 : Cond.methodLink RX7 183 yX3_takeDown ∈ js_good := List.mem_filter.mpr ⟨List.mem_append_right _ (List.mem_of_getElem? (i := 416) (by decide +kernel)), by decide +kernel⟩
theorem tw_417 : Cond.instanceMethod yX3_takeDown ∈ js_good := List.mem_filter.mpr ⟨List.mem_append_right _ (List.mem_of_getElem? (i := 417) (by decide +kernel)), by decide +kernel⟩
theorem tw_418 : Cond.selects RX3 yX3_takeDown yX3_takeDown ∈ js_good := List.mem_filter.mpr ⟨List.mem_append_right _ (List.mem_of_getElem? (i := 418) (by decide +kernel)), by decide +kernel⟩
theorem tw_419 : Cond.code yX3_takeDown cX3_takeDown 7 (some (FieldType.int)) ∈ js_good := List.mem_filter.mpr ⟨List.mem_append_right _ (List.mem_of_getElem? (i := 419) (by decide +kernel)), by decide +kernel⟩
theorem tw_420 : Cond.methodLink RX3 96 yX3_loose ∈ js_good := List.mem_filter.mpr ⟨List.mem_append_right _ (List.mem_of_getElem? (i := 420) (by decide +kernel)), by decide +kernel⟩
theorem tw_421 : Cond.instanceMethod yX3_loose ∈ js_good := List.mem_filter.mpr ⟨List.mem_append_right _ (List.mem_of_getElem? (i := 421) (by decide +kernel)), by decide +kernel⟩
theorem tw_422 : Cond.selects RX3 yX3_loose yX3_loose ∈ js_good := List.mem_filter.mpr ⟨List.mem_append_right _ (List.mem_of_getElem? (i := 422) (by decide +kernel)), by decide +kernel⟩
theorem tw_423 : Cond.code yX3_loose cX3_loose 8 (some (FieldType.int)) ∈ js_good := List.mem_filter.mpr ⟨List.mem_append_right _ (List.mem_of_getElem? (i := 423) (by decide +kernel)), by decide +kernel⟩
theorem tw_425 : Cond.instanceMethod yX7_brought ∈ js_good := List.mem_filter.mpr ⟨List.mem_append_right _ (List.mem_of_getElem? (i := 425) (by decide +kernel)), by decide +kernel⟩
theorem tw_426 : Cond.selects RX7 yX7_brought yX7_brought ∈ js_good := List.mem_filter.mpr ⟨List.mem_append_right _ (List.mem_of_getElem? (i := 426) (by decide +kernel)), by decide +kernel⟩
theorem tw_427 : Cond.code yX7_brought cX7_brought 4 (some (FieldType.int)) ∈ js_good := List.mem_filter.mpr ⟨List.mem_append_right _ (List.mem_of_getElem? (i := 427) (by decide +kernel)), by decide +kernel⟩
theorem tw_428 : Cond.methodLink RX7 186 yX0_putUp ∈ js_good := List.mem_filter.mpr ⟨List.mem_append_right _ (List.mem_of_getElem? (i := 428) (by decide +kernel)), by decide +kernel⟩
theorem tw_429 : Cond.instanceMethod yX0_putUp ∈ js_good := List.mem_filter.mpr ⟨List.mem_append_right _ (List.mem_of_getElem? (i := 429) (by decide +kernel)), by decide +kernel⟩
theorem tw_430 : Cond.selects RX0 yX0_putUp yX0_putUp ∈ js_good := List.mem_filter.mpr ⟨List.mem_append_right _ (List.mem_of_getElem? (i := 430) (by decide +kernel)), by decide +kernel⟩
theorem tw_431 : Cond.code yX0_putUp cX0_putUp 10 none ∈ js_good := List.mem_filter.mpr ⟨List.mem_append_right _ (List.mem_of_getElem? (i := 431) (by decide +kernel)), by decide +kernel⟩
theorem tw_432 : Cond.methodLink RX0 22 yX3_kindOf ∈ js_good := List.mem_filter.mpr ⟨List.mem_append_right _ (List.mem_of_getElem? (i := 432) (by decide +kernel)), by decide +kernel⟩
theorem tw_433 : Cond.methodLink RX0 31 yX1_cakes ∈ js_good := List.mem_filter.mpr ⟨List.mem_append_right _ (List.mem_of_getElem? (i := 433) (by decide +kernel)), by decide +kernel⟩
theorem tw_434 : Cond.methodLink RX0 37 yX3_loose ∈ js_good := List.mem_filter.mpr ⟨List.mem_append_right _ (List.mem_of_getElem? (i := 434) (by decide +kernel)), by decide +kernel⟩
theorem tw_435 : Cond.methodLink RX0 41 yX3_wordAt ∈ js_good := List.mem_filter.mpr ⟨List.mem_append_right _ (List.mem_of_getElem? (i := 435) (by decide +kernel)), by decide +kernel⟩
theorem tw_436 : Cond.methodLink RX0 45 yX0_take ∈ js_good := List.mem_filter.mpr ⟨List.mem_append_right _ (List.mem_of_getElem? (i := 436) (by decide +kernel)), by decide +kernel⟩
theorem tw_438 : Cond.instanceMethod yX0_take ∈ js_good := List.mem_filter.mpr ⟨List.mem_append_right _ (List.mem_of_getElem? (i := 438) (by decide +kernel)), by decide +kernel⟩
theorem tw_439 : Cond.code yX0_take cX0_take 2 none ∈ js_good := List.mem_filter.mpr ⟨List.mem_append_right _ (List.mem_of_getElem? (i := 439) (by decide +kernel)), by decide +kernel⟩
theorem tw_441 : Cond.instanceMethod yX7_order ∈ js_good := List.mem_filter.mpr ⟨List.mem_append_right _ (List.mem_of_getElem? (i := 441) (by decide +kernel)), by decide +kernel⟩
theorem tw_442 : Cond.selects RX7 yX7_order yX7_order ∈ js_good := List.mem_filter.mpr ⟨List.mem_append_right _ (List.mem_of_getElem? (i := 442) (by decide +kernel)), by decide +kernel⟩
theorem tw_443 : Cond.code yX7_order cX7_order 5 (some (FieldType.int)) ∈ js_good := List.mem_filter.mpr ⟨List.mem_append_right _ (List.mem_of_getElem? (i := 443) (by decide +kernel)), by decide +kernel⟩
theorem tw_444 : Cond.methodLink RX7 196 yX0_word ∈ js_good := List.mem_filter.mpr ⟨List.mem_append_right _ (List.mem_of_getElem? (i := 444) (by decide +kernel)), by decide +kernel⟩
theorem tw_445 : Cond.instanceMethod yX0_word ∈ js_good := List.mem_filter.mpr ⟨List.mem_append_right _ (List.mem_of_getElem? (i := 445) (by decide +kernel)), by decide +kernel⟩
theorem tw_446 : Cond.selects RX0 yX0_word yX0_word ∈ js_good := List.mem_filter.mpr ⟨List.mem_append_right _ (List.mem_of_getElem? (i := 446) (by decide +kernel)), by decide +kernel⟩
theorem tw_447 : Cond.code yX0_word cX0_word 2 (some (FieldType.int)) ∈ js_good := List.mem_filter.mpr ⟨List.mem_append_right _ (List.mem_of_getElem? (i := 447) (by decide +kernel)), by decide +kernel⟩
theorem tw_449 : Cond.instanceMethod yX7_on ∈ js_good := List.mem_filter.mpr ⟨List.mem_append_right _ (List.mem_of_getElem? (i := 449) (by decide +kernel)), by decide +kernel⟩
theorem tw_450 : Cond.selects RX7 yX7_on yX7_on ∈ js_good := List.mem_filter.mpr ⟨List.mem_append_right _ (List.mem_of_getElem? (i := 450) (by decide +kernel)), by decide +kernel⟩
theorem tw_451 : Cond.code yX7_on cX7_on 5 (some (FieldType.int)) ∈ js_good := List.mem_filter.mpr ⟨List.mem_append_right _ (List.mem_of_getElem? (i := 451) (by decide +kernel)), by decide +kernel⟩
theorem tw_453 : Cond.instanceMethod yX7_reach ∈ js_good := List.mem_filter.mpr ⟨List.mem_append_right _ (List.mem_of_getElem? (i := 453) (by decide +kernel)), by decide +kernel⟩
theorem tw_454 : Cond.selects RX7 yX7_reach yX7_reach ∈ js_good := List.mem_filter.mpr ⟨List.mem_append_right _ (List.mem_of_getElem? (i := 454) (by decide +kernel)), by decide +kernel⟩
theorem tw_455 : Cond.code yX7_reach cX7_reach 5 (some (FieldType.int)) ∈ js_good := List.mem_filter.mpr ⟨List.mem_append_right _ (List.mem_of_getElem? (i := 455) (by decide +kernel)), by decide +kernel⟩
theorem tw_456 : Cond.methodLink RX7 199 yX7_isSet ∈ js_good := List.mem_filter.mpr ⟨List.mem_append_right _ (List.mem_of_getElem? (i := 456) (by decide +kernel)), by decide +kernel⟩
theorem tw_457 : Cond.static yX7_isSet ∈ js_good := List.mem_filter.mpr ⟨List.mem_append_right _ (List.mem_of_getElem? (i := 457) (by decide +kernel)), by decide +kernel⟩
theorem tw_458 : Cond.code yX7_isSet cX7_isSet 1 (some (FieldType.boolean)) ∈ js_good := List.mem_filter.mpr ⟨List.mem_append_right _ (List.mem_of_getElem? (i := 458) (by decide +kernel)), by decide +kernel⟩
theorem tw_459 : Cond.constant RX7 300 (65536) ∈ js_good := List.mem_filter.mpr ⟨List.mem_append_right _ (List.mem_of_getElem? (i := 459) (by decide +kernel)), by decide +kernel⟩
theorem tw_460 : Cond.methodLink RX7 202 yX0_brings ∈ js_good := List.mem_filter.mpr ⟨List.mem_append_right _ (List.mem_of_getElem? (i := 460) (by decide +kernel)), by decide +kernel⟩
theorem tw_461 : Cond.instanceMethod yX0_brings ∈ js_good := List.mem_filter.mpr ⟨List.mem_append_right _ (List.mem_of_getElem? (i := 461) (by decide +kernel)), by decide +kernel⟩
theorem tw_462 : Cond.selects RX0 yX0_brings yX0_brings ∈ js_good := List.mem_filter.mpr ⟨List.mem_append_right _ (List.mem_of_getElem? (i := 462) (by decide +kernel)), by decide +kernel⟩
theorem tw_463 : Cond.code yX0_brings cX0_brings 2 (some (FieldType.boolean)) ∈ js_good := List.mem_filter.mpr ⟨List.mem_append_right _ (List.mem_of_getElem? (i := 463) (by decide +kernel)), by decide +kernel⟩
theorem tw_465 : Cond.instanceMethod yX7_strength ∈ js_good := List.mem_filter.mpr ⟨List.mem_append_right _ (List.mem_of_getElem? (i := 465) (by decide +kernel)), by decide +kernel⟩
theorem tw_466 : Cond.selects RX7 yX7_strength yX7_strength ∈ js_good := List.mem_filter.mpr ⟨List.mem_append_right _ (List.mem_of_getElem? (i := 466) (by decide +kernel)), by decide +kernel⟩
theorem tw_467 : Cond.code yX7_strength cX7_strength 5 (some (FieldType.int)) ∈ js_good := List.mem_filter.mpr ⟨List.mem_append_right _ (List.mem_of_getElem? (i := 467) (by decide +kernel)), by decide +kernel⟩
theorem tw_469 : Cond.instanceMethod yX7_secret ∈ js_good := List.mem_filter.mpr ⟨List.mem_append_right _ (List.mem_of_getElem? (i := 469) (by decide +kernel)), by decide +kernel⟩
theorem tw_470 : Cond.selects RX7 yX7_secret yX7_secret ∈ js_good := List.mem_filter.mpr ⟨List.mem_append_right _ (List.mem_of_getElem? (i := 470) (by decide +kernel)), by decide +kernel⟩
theorem tw_471 : Cond.code yX7_secret cX7_secret 6 (some (FieldType.int)) ∈ js_good := List.mem_filter.mpr ⟨List.mem_append_right _ (List.mem_of_getElem? (i := 471) (by decide +kernel)), by decide +kernel⟩
theorem tw_473 : Cond.instanceMethod yX7_fewest ∈ js_good := List.mem_filter.mpr ⟨List.mem_append_right _ (List.mem_of_getElem? (i := 473) (by decide +kernel)), by decide +kernel⟩
theorem tw_474 : Cond.selects RX7 yX7_fewest yX7_fewest ∈ js_good := List.mem_filter.mpr ⟨List.mem_append_right _ (List.mem_of_getElem? (i := 474) (by decide +kernel)), by decide +kernel⟩
theorem tw_475 : Cond.code yX7_fewest cX7_fewest 6 (some (FieldType.int)) ∈ js_good := List.mem_filter.mpr ⟨List.mem_append_right _ (List.mem_of_getElem? (i := 475) (by decide +kernel)), by decide +kernel⟩
theorem tw_476 : Cond.methodLink RX7 205 yJ6_bitCount_0f7a4 ∈ js_good := List.mem_filter.mpr ⟨List.mem_append_right _ (List.mem_of_getElem? (i := 476) (by decide +kernel)), by decide +kernel⟩
theorem tw_477 : Cond.static yJ6_bitCount_0f7a4 ∈ js_good := List.mem_filter.mpr ⟨List.mem_append_right _ (List.mem_of_getElem? (i := 477) (by decide +kernel)), by decide +kernel⟩
theorem tw_478 : Cond.code yJ6_bitCount_0f7a4 cJ6_bitCount_0f7a4 1 (some (FieldType.int)) ∈ js_good := List.mem_filter.mpr ⟨List.mem_append_right _ (List.mem_of_getElem? (i := 478) (by decide +kernel)), by decide +kernel⟩
theorem tw_479 : Cond.constant RJ6 265 (1431655765) ∈ js_good := List.mem_filter.mpr ⟨List.mem_append_right _ (List.mem_of_getElem? (i := 479) (by decide +kernel)), by decide +kernel⟩
theorem tw_480 : Cond.constant RJ6 266 (858993459) ∈ js_good := List.mem_filter.mpr ⟨List.mem_append_right _ (List.mem_of_getElem? (i := 480) (by decide +kernel)), by decide +kernel⟩
theorem tw_481 : Cond.constant RJ6 267 (252645135) ∈ js_good := List.mem_filter.mpr ⟨List.mem_append_right _ (List.mem_of_getElem? (i := 481) (by decide +kernel)), by decide +kernel⟩
theorem tw_482 : Cond.methodLink RX7 210 yX7_joined ∈ js_good := List.mem_filter.mpr ⟨List.mem_append_right _ (List.mem_of_getElem? (i := 482) (by decide +kernel)), by decide +kernel⟩
theorem tw_484 : Cond.instanceMethod yX7_joined ∈ js_good := List.mem_filter.mpr ⟨List.mem_append_right _ (List.mem_of_getElem? (i := 484) (by decide +kernel)), by decide +kernel⟩
theorem tw_485 : Cond.code yX7_joined cX7_joined 4 (some (FieldType.int)) ∈ js_good := List.mem_filter.mpr ⟨List.mem_append_right _ (List.mem_of_getElem? (i := 485) (by decide +kernel)), by decide +kernel⟩
theorem tw_486 : Cond.methodLink RX7 213 yX7_hasBit ∈ js_good := List.mem_filter.mpr ⟨List.mem_append_right _ (List.mem_of_getElem? (i := 486) (by decide +kernel)), by decide +kernel⟩
theorem tw_487 : Cond.static yX7_hasBit ∈ js_good := List.mem_filter.mpr ⟨List.mem_append_right _ (List.mem_of_getElem? (i := 487) (by decide +kernel)), by decide +kernel⟩
theorem tw_488 : Cond.code yX7_hasBit cX7_hasBit 2 (some (FieldType.boolean)) ∈ js_good := List.mem_filter.mpr ⟨List.mem_append_right _ (List.mem_of_getElem? (i := 488) (by decide +kernel)), by decide +kernel⟩
theorem tw_490 : Cond.instanceMethod yX7_where ∈ js_good := List.mem_filter.mpr ⟨List.mem_append_right _ (List.mem_of_getElem? (i := 490) (by decide +kernel)), by decide +kernel⟩
theorem tw_491 : Cond.selects RX7 yX7_where yX7_where ∈ js_good := List.mem_filter.mpr ⟨List.mem_append_right _ (List.mem_of_getElem? (i := 491) (by decide +kernel)), by decide +kernel⟩
theorem tw_492 : Cond.code yX7_where cX7_where 4 (some (FieldType.int)) ∈ js_good := List.mem_filter.mpr ⟨List.mem_append_right _ (List.mem_of_getElem? (i := 492) (by decide +kernel)), by decide +kernel⟩
theorem tw_494 : Cond.instanceMethod yX7_lost ∈ js_good := List.mem_filter.mpr ⟨List.mem_append_right _ (List.mem_of_getElem? (i := 494) (by decide +kernel)), by decide +kernel⟩
theorem tw_495 : Cond.selects RX7 yX7_lost yX7_lost ∈ js_good := List.mem_filter.mpr ⟨List.mem_append_right _ (List.mem_of_getElem? (i := 495) (by decide +kernel)), by decide +kernel⟩
theorem tw_496 : Cond.code yX7_lost cX7_lost 5 (some (FieldType.int)) ∈ js_good := List.mem_filter.mpr ⟨List.mem_append_right _ (List.mem_of_getElem? (i := 496) (by decide +kernel)), by decide +kernel⟩
theorem tw_498 : Cond.instanceMethod yX7_covers ∈ js_good := List.mem_filter.mpr ⟨List.mem_append_right _ (List.mem_of_getElem? (i := 498) (by decide +kernel)), by decide +kernel⟩
theorem tw_499 : Cond.selects RX7 yX7_covers yX7_covers ∈ js_good := List.mem_filter.mpr ⟨List.mem_append_right _ (List.mem_of_getElem? (i := 499) (by decide +kernel)), by decide +kernel⟩
theorem tw_500 : Cond.code yX7_covers cX7_covers 6 (some (FieldType.int)) ∈ js_good := List.mem_filter.mpr ⟨List.mem_append_right _ (List.mem_of_getElem? (i := 500) (by decide +kernel)), by decide +kernel⟩
theorem tw_501 : Cond.methodLink RX7 216 yX3_lowestWith ∈ js_good := List.mem_filter.mpr ⟨List.mem_append_right _ (List.mem_of_getElem? (i := 501) (by decide +kernel)), by decide +kernel⟩
theorem tw_502 : Cond.instanceMethod yX3_lowestWith ∈ js_good := List.mem_filter.mpr ⟨List.mem_append_right _ (List.mem_of_getElem? (i := 502) (by decide +kernel)), by decide +kernel⟩
theorem tw_503 : Cond.selects RX3 yX3_lowestWith yX3_lowestWith ∈ js_good := List.mem_filter.mpr ⟨List.mem_append_right _ (List.mem_of_getElem? (i := 503) (by decide +kernel)), by decide +kernel⟩
theorem tw_504 : Cond.code yX3_lowestWith cX3_lowestWith 4 (some (FieldType.int)) ∈ js_good := List.mem_filter.mpr ⟨List.mem_append_right _ (List.mem_of_getElem? (i := 504) (by decide +kernel)), by decide +kernel⟩
theorem tw_506 : Cond.methodLink RX7 219 yX3_landing ∈ js_good := List.mem_filter.mpr ⟨List.mem_append_right _ (List.mem_of_getElem? (i := 506) (by decide +kernel)), by decide +kernel⟩
theorem tw_508 : Cond.instanceMethod yX7_kind ∈ js_good := List.mem_filter.mpr ⟨List.mem_append_right _ (List.mem_of_getElem? (i := 508) (by decide +kernel)), by decide +kernel⟩
theorem tw_509 : Cond.selects RX7 yX7_kind yX7_kind ∈ js_good := List.mem_filter.mpr ⟨List.mem_append_right _ (List.mem_of_getElem? (i := 509) (by decide +kernel)), by decide +kernel⟩
theorem tw_510 : Cond.code yX7_kind cX7_kind 7 (some (FieldType.int)) ∈ js_good := List.mem_filter.mpr ⟨List.mem_append_right _ (List.mem_of_getElem? (i := 510) (by decide +kernel)), by decide +kernel⟩
theorem tw_511 : Cond.methodLink RX7 222 yX6_speakAll ∈ js_good := List.mem_filter.mpr ⟨List.mem_append_right _ (List.mem_of_getElem? (i := 511) (by decide +kernel)), by decide +kernel⟩
theorem tw_512 : Cond.instanceMethod yX6_speakAll ∈ js_good := List.mem_filter.mpr ⟨List.mem_append_right _ (List.mem_of_getElem? (i := 512) (by decide +kernel)), by decide +kernel⟩
theorem tw_513 : Cond.selects RX6 yX6_speakAll yX6_speakAll ∈ js_good := List.mem_filter.mpr ⟨List.mem_append_right _ (List.mem_of_getElem? (i := 513) (by decide +kernel)), by decide +kernel⟩
theorem tw_514 : Cond.code yX6_speakAll cX6_speakAll 7 none ∈ js_good := List.mem_filter.mpr ⟨List.mem_append_right _ (List.mem_of_getElem? (i := 514) (by decide +kernel)), by decide +kernel⟩
theorem tw_515 : Cond.methodLink RX6 22 yX3_height ∈ js_good := List.mem_filter.mpr ⟨List.mem_append_right _ (List.mem_of_getElem? (i := 515) (by decide +kernel)), by decide +kernel⟩
theorem tw_517 : Cond.methodLink RX6 35 yX1_rise ∈ js_good := List.mem_filter.mpr ⟨List.mem_append_right _ (List.mem_of_getElem? (i := 517) (by decide +kernel)), by decide +kernel⟩
theorem tw_518 : Cond.methodLink RX6 41 yX6_settleOne ∈ js_good := List.mem_filter.mpr ⟨List.mem_append_right _ (List.mem_of_getElem? (i := 518) (by decide +kernel)), by decide +kernel⟩
theorem tw_520 : Cond.instanceMethod yX6_settleOne ∈ js_good := List.mem_filter.mpr ⟨List.mem_append_right _ (List.mem_of_getElem? (i := 520) (by decide +kernel)), by decide +kernel⟩
theorem tw_521 : Cond.code yX6_settleOne cX6_settleOne 4 none ∈ js_good := List.mem_filter.mpr ⟨List.mem_append_right _ (List.mem_of_getElem? (i := 521) (by decide +kernel)), by decide +kernel⟩
theorem tw_522 : Cond.methodLink RX6 45 yX1_settle ∈ js_good := List.mem_filter.mpr ⟨List.mem_append_right _ (List.mem_of_getElem? (i := 522) (by decide +kernel)), by decide +kernel⟩
theorem tw_525 : Cond.instanceMethod yX7_best ∈ js_good := List.mem_filter.mpr ⟨List.mem_append_right _ (List.mem_of_getElem? (i := 525) (by decide +kernel)), by decide +kernel⟩
theorem tw_526 : Cond.selects RX7 yX7_best yX7_best ∈ js_good := List.mem_filter.mpr ⟨List.mem_append_right _ (List.mem_of_getElem? (i := 526) (by decide +kernel)), by decide +kernel⟩
theorem tw_527 : Cond.code yX7_best cX7_best 6 (some (FieldType.int)) ∈ js_good := List.mem_filter.mpr ⟨List.mem_append_right _ (List.mem_of_getElem? (i := 527) (by decide +kernel)), by decide +kernel⟩
theorem tw_529 : Cond.instanceMethod yX7_richest ∈ js_good := List.mem_filter.mpr ⟨List.mem_append_right _ (List.mem_of_getElem? (i := 529) (by decide +kernel)), by decide +kernel⟩
theorem tw_530 : Cond.selects RX7 yX7_richest yX7_richest ∈ js_good := List.mem_filter.mpr ⟨List.mem_append_right _ (List.mem_of_getElem? (i := 530) (by decide +kernel)), by decide +kernel⟩
theorem tw_531 : Cond.code yX7_richest cX7_richest 6 (some (FieldType.int)) ∈ js_good := List.mem_filter.mpr ⟨List.mem_append_right _ (List.mem_of_getElem? (i := 531) (by decide +kernel)), by decide +kernel⟩
theorem tw_533 : Cond.instanceMethod yX7_feed ∈ js_good := List.mem_filter.mpr ⟨List.mem_append_right _ (List.mem_of_getElem? (i := 533) (by decide +kernel)), by decide +kernel⟩
theorem tw_534 : Cond.selects RX7 yX7_feed yX7_feed ∈ js_good := List.mem_filter.mpr ⟨List.mem_append_right _ (List.mem_of_getElem? (i := 534) (by decide +kernel)), by decide +kernel⟩
theorem tw_535 : Cond.code yX7_feed cX7_feed 4 (some (FieldType.int)) ∈ js_good := List.mem_filter.mpr ⟨List.mem_append_right _ (List.mem_of_getElem? (i := 535) (by decide +kernel)), by decide +kernel⟩
theorem tw_536 : Cond.methodLink RX7 231 yX4_hasRoom ∈ js_good := List.mem_filter.mpr ⟨List.mem_append_right _ (List.mem_of_getElem? (i := 536) (by decide +kernel)), by decide +kernel⟩
theorem tw_537 : Cond.instanceMethod yX4_hasRoom ∈ js_good := List.mem_filter.mpr ⟨List.mem_append_right _ (List.mem_of_getElem? (i := 537) (by decide +kernel)), by decide +kernel⟩
theorem tw_538 : Cond.selects RX4 yX4_hasRoom yX4_hasRoom ∈ js_good := List.mem_filter.mpr ⟨List.mem_append_right _ (List.mem_of_getElem? (i := 538) (by decide +kernel)), by decide +kernel⟩
theorem tw_539 : Cond.code yX4_hasRoom cX4_hasRoom 2 (some (FieldType.boolean)) ∈ js_good := List.mem_filter.mpr ⟨List.mem_append_right _ (List.mem_of_getElem? (i := 539) (by decide +kernel)), by decide +kernel⟩
theorem tw_540 : Cond.methodLink RX7 234 yX4_add ∈ js_good := List.mem_filter.mpr ⟨List.mem_append_right _ (List.mem_of_getElem? (i := 540) (by decide +kernel)), by decide +kernel⟩
theorem tw_541 : Cond.instanceMethod yX4_add ∈ js_good := List.mem_filter.mpr ⟨List.mem_append_right _ (List.mem_of_getElem? (i := 541) (by decide +kernel)), by decide +kernel⟩
theorem tw_542 : Cond.selects RX4 yX4_add yX4_add ∈ js_good := List.mem_filter.mpr ⟨List.mem_append_right _ (List.mem_of_getElem? (i := 542) (by decide +kernel)), by decide +kernel⟩
theorem tw_543 : Cond.code yX4_add cX4_add 2 none ∈ js_good := List.mem_filter.mpr ⟨List.mem_append_right _ (List.mem_of_getElem? (i := 543) (by decide +kernel)), by decide +kernel⟩
theorem tw_545 : Cond.instanceMethod yX7_wipe ∈ js_good := List.mem_filter.mpr ⟨List.mem_append_right _ (List.mem_of_getElem? (i := 545) (by decide +kernel)), by decide +kernel⟩
theorem tw_546 : Cond.selects RX7 yX7_wipe yX7_wipe ∈ js_good := List.mem_filter.mpr ⟨List.mem_append_right _ (List.mem_of_getElem? (i := 546) (by decide +kernel)), by decide +kernel⟩
theorem tw_547 : Cond.code yX7_wipe cX7_wipe 2 (some (FieldType.int)) ∈ js_good := List.mem_filter.mpr ⟨List.mem_append_right _ (List.mem_of_getElem? (i := 547) (by decide +kernel)), by decide +kernel⟩
theorem tw_549 : Cond.instanceMethod yX7_house ∈ js_good := List.mem_filter.mpr ⟨List.mem_append_right _ (List.mem_of_getElem? (i := 549) (by decide +kernel)), by decide +kernel⟩
theorem tw_550 : Cond.selects RX7 yX7_house yX7_house ∈ js_good := List.mem_filter.mpr ⟨List.mem_append_right _ (List.mem_of_getElem? (i := 550) (by decide +kernel)), by decide +kernel⟩
theorem tw_551 : Cond.code yX7_house cX7_house 2 (some (FieldType.int)) ∈ js_good := List.mem_filter.mpr ⟨List.mem_append_right _ (List.mem_of_getElem? (i := 551) (by decide +kernel)), by decide +kernel⟩
theorem tw_552 : Cond.methodLink RX7 240 yX5_goThrough ∈ js_good := List.mem_filter.mpr ⟨List.mem_append_right _ (List.mem_of_getElem? (i := 552) (by decide +kernel)), by decide +kernel⟩
theorem tw_553 : Cond.instanceMethod yX5_goThrough ∈ js_good := List.mem_filter.mpr ⟨List.mem_append_right _ (List.mem_of_getElem? (i := 553) (by decide +kernel)), by decide +kernel⟩
theorem tw_554 : Cond.selects RX5 yX5_goThrough yX5_goThrough ∈ js_good := List.mem_filter.mpr ⟨List.mem_append_right _ (List.mem_of_getElem? (i := 554) (by decide +kernel)), by decide +kernel⟩
theorem tw_555 : Cond.code yX5_goThrough cX5_goThrough 5 (some (FieldType.int)) ∈ js_good := List.mem_filter.mpr ⟨List.mem_append_right _ (List.mem_of_getElem? (i := 555) (by decide +kernel)), by decide +kernel⟩
theorem tw_556 : Cond.methodLink RX5 42 yX4_begin ∈ js_good := List.mem_filter.mpr ⟨List.mem_append_right _ (List.mem_of_getElem? (i := 556) (by decide +kernel)), by decide +kernel⟩
theorem tw_557 : Cond.instanceMethod yX4_begin ∈ js_good := List.mem_filter.mpr ⟨List.mem_append_right _ (List.mem_of_getElem? (i := 557) (by decide +kernel)), by decide +kernel⟩
theorem tw_558 : Cond.selects RX4 yX4_begin yX4_begin ∈ js_good := List.mem_filter.mpr ⟨List.mem_append_right _ (List.mem_of_getElem? (i := 558) (by decide +kernel)), by decide +kernel⟩
theorem tw_559 : Cond.code yX4_begin cX4_begin 1 none ∈ js_good := List.mem_filter.mpr ⟨List.mem_append_right _ (List.mem_of_getElem? (i := 559) (by decide +kernel)), by decide +kernel⟩
theorem tw_560 : Cond.methodLink RX4 29 yX4_step ∈ js_good := List.mem_filter.mpr ⟨List.mem_append_right _ (List.mem_of_getElem? (i := 560) (by decide +kernel)), by decide +kernel⟩
theorem tw_561 : Cond.instanceMethod yX4_step ∈ js_good := List.mem_filter.mpr ⟨List.mem_append_right _ (List.mem_of_getElem? (i := 561) (by decide +kernel)), by decide +kernel⟩
theorem tw_562 : Cond.selects RX4 yX4_step yX4_step ∈ js_good := List.mem_filter.mpr ⟨List.mem_append_right _ (List.mem_of_getElem? (i := 562) (by decide +kernel)), by decide +kernel⟩
theorem tw_563 : Cond.code yX4_step cX4_step 1 none ∈ js_good := List.mem_filter.mpr ⟨List.mem_append_right _ (List.mem_of_getElem? (i := 563) (by decide +kernel)), by decide +kernel⟩
theorem tw_564 : Cond.methodLink RX4 32 yX4_at ∈ js_good := List.mem_filter.mpr ⟨List.mem_append_right _ (List.mem_of_getElem? (i := 564) (by decide +kernel)), by decide +kernel⟩
theorem tw_566 : Cond.instanceMethod yX4_at ∈ js_good := List.mem_filter.mpr ⟨List.mem_append_right _ (List.mem_of_getElem? (i := 566) (by decide +kernel)), by decide +kernel⟩
theorem tw_567 : Cond.code yX4_at cX4_at 2 (some (FieldType.int)) ∈ js_good := List.mem_filter.mpr ⟨List.mem_append_right _ (List.mem_of_getElem? (i := 567) (by decide +kernel)), by decide +kernel⟩
theorem tw_568 : Cond.methodLink RX4 36 yX4_isLetter ∈ js_good := List.mem_filter.mpr ⟨List.mem_append_right _ (List.mem_of_getElem? (i := 568) (by decide +kernel)), by decide +kernel⟩
theorem tw_569 : Cond.static yX4_isLetter ∈ js_good := List.mem_filter.mpr ⟨List.mem_append_right _ (List.mem_of_getElem? (i := 569) (by decide +kernel)), by decide +kernel⟩
theorem tw_570 : Cond.code yX4_isLetter cX4_isLetter 1 (some (FieldType.boolean)) ∈ js_good := List.mem_filter.mpr ⟨List.mem_append_right _ (List.mem_of_getElem? (i := 570) (by decide +kernel)), by decide +kernel⟩
theorem tw_571 : Cond.methodLink RX4 40 yX4_isDigit ∈ js_good := List.mem_filter.mpr ⟨List.mem_append_right _ (List.mem_of_getElem? (i := 571) (by decide +kernel)), by decide +kernel⟩
theorem tw_572 : Cond.static yX4_isDigit ∈ js_good := List.mem_filter.mpr ⟨List.mem_append_right _ (List.mem_of_getElem? (i := 572) (by decide +kernel)), by decide +kernel⟩
theorem tw_573 : Cond.code yX4_isDigit cX4_isDigit 1 (some (FieldType.boolean)) ∈ js_good := List.mem_filter.mpr ⟨List.mem_append_right _ (List.mem_of_getElem? (i := 573) (by decide +kernel)), by decide +kernel⟩
theorem tw_574 : Cond.methodLink RX4 43 Lib.Math.min.name ∈ js_good := List.mem_filter.mpr ⟨List.mem_append_right _ (List.mem_of_getElem? (i := 574) (by decide +kernel)), by decide +kernel⟩
theorem tw_575 : Cond.methodLink RX5 47 yX5_passItem ∈ js_good := List.mem_filter.mpr ⟨List.mem_append_right _ (List.mem_of_getElem? (i := 575) (by decide +kernel)), by decide +kernel⟩
theorem tw_577 : Cond.instanceMethod yX5_passItem ∈ js_good := List.mem_filter.mpr ⟨List.mem_append_right _ (List.mem_of_getElem? (i := 577) (by decide +kernel)), by decide +kernel⟩
theorem tw_578 : Cond.code yX5_passItem cX5_passItem 3 (some (FieldType.boolean)) ∈ js_good := List.mem_filter.mpr ⟨List.mem_append_right _ (List.mem_of_getElem? (i := 578) (by decide +kernel)), by decide +kernel⟩
theorem tw_580 : Cond.methodLink RX5 66 yX4_pass ∈ js_good := List.mem_filter.mpr ⟨List.mem_append_right _ (List.mem_of_getElem? (i := 580) (by decide +kernel)), by decide +kernel⟩
theorem tw_581 : Cond.instanceMethod yX4_pass ∈ js_good := List.mem_filter.mpr ⟨List.mem_append_right _ (List.mem_of_getElem? (i := 581) (by decide +kernel)), by decide +kernel⟩
theorem tw_582 : Cond.selects RX4 yX4_pass yX4_pass ∈ js_good := List.mem_filter.mpr ⟨List.mem_append_right _ (List.mem_of_getElem? (i := 582) (by decide +kernel)), by decide +kernel⟩
theorem tw_583 : Cond.code yX4_pass cX4_pass 3 (some (FieldType.boolean)) ∈ js_good := List.mem_filter.mpr ⟨List.mem_append_right _ (List.mem_of_getElem? (i := 583) (by decide +kernel)), by decide +kernel⟩
theorem tw_584 : Cond.methodLink RX4 49 yJ0_length_8abf5 ∈ js_good := List.mem_filter.mpr ⟨List.mem_append_right _ (List.mem_of_getElem? (i := 584) (by decide +kernel)), by decide +kernel⟩
theorem tw_585 : Cond.instanceMethod yJ0_length_8abf5 ∈ js_good := List.mem_filter.mpr ⟨List.mem_append_right _ (List.mem_of_getElem? (i := 585) (by decide +kernel)), by decide +kernel⟩
theorem tw_586 : Cond.selects RJ0 yJ0_length_8abf5 yJ0_length_8abf5 ∈ js_good := List.mem_filter.mpr ⟨List.mem_append_right _ (List.mem_of_getElem? (i := 586) (by decide +kernel)), by decide +kernel⟩
theorem tw_587 : Cond.code yJ0_length_8abf5 cJ0_length_8abf5 1 (some (FieldType.int)) ∈ js_good := List.mem_filter.mpr ⟨List.mem_append_right _ (List.mem_of_getElem? (i := 587) (by decide +kernel)), by decide +kernel⟩
theorem tw_588 : Cond.methodLink RJ0 335 yJ0_coder_7d493 ∈ js_good := List.mem_filter.mpr ⟨List.mem_append_right _ (List.mem_of_getElem? (i := 588) (by decide +kernel)), by decide +kernel⟩
theorem tw_589 : Cond.instanceMethod yJ0_coder_7d493 ∈ js_good := List.mem_filter.mpr ⟨List.mem_append_right _ (List.mem_of_getElem? (i := 589) (by decide +kernel)), by decide +kernel⟩
theorem tw_590 : Cond.selects RJ0 yJ0_coder_7d493 yJ0_coder_7d493 ∈ js_good := List.mem_filter.mpr ⟨List.mem_append_right _ (List.mem_of_getElem? (i := 590) (by decide +kernel)), by decide +kernel⟩
theorem tw_591 : Cond.code yJ0_coder_7d493 cJ0_coder_7d493 1 (some (FieldType.byte)) ∈ js_good := List.mem_filter.mpr ⟨List.mem_append_right _ (List.mem_of_getElem? (i := 591) (by decide +kernel)), by decide +kernel⟩
theorem tw_592 : Cond.fieldLink RJ0 38 RJ0 "COMPACT_STRINGS" "Z" ∈ js_good := List.mem_filter.mpr ⟨List.mem_append_right _ (List.mem_of_getElem? (i := 592) (by decide +kernel)), by decide +kernel⟩
theorem tw_594 : Cond.methodLink RX4 54 yJ0_charAt_5068e ∈ js_good := List.mem_filter.mpr ⟨List.mem_append_right _ (List.mem_of_getElem? (i := 594) (by decide +kernel)), by decide +kernel⟩
theorem tw_595 : Cond.instanceMethod yJ0_charAt_5068e ∈ js_good := List.mem_filter.mpr ⟨List.mem_append_right _ (List.mem_of_getElem? (i := 595) (by decide +kernel)), by decide +kernel⟩
theorem tw_596 : Cond.selects RJ0 yJ0_charAt_5068e yJ0_charAt_5068e ∈ js_good := List.mem_filter.mpr ⟨List.mem_append_right _ (List.mem_of_getElem? (i := 596) (by decide +kernel)), by decide +kernel⟩
theorem tw_597 : Cond.code yJ0_charAt_5068e cJ0_charAt_5068e 2 (some (FieldType.char)) ∈ js_good := List.mem_filter.mpr ⟨List.mem_append_right _ (List.mem_of_getElem? (i := 597) (by decide +kernel)), by decide +kernel⟩
theorem tw_598 : Cond.methodLink RJ0 492 yJ0_isLatin1_aae02 ∈ js_good := List.mem_filter.mpr ⟨List.mem_append_right _ (List.mem_of_getElem? (i := 598) (by decide +kernel)), by decide +kernel⟩
theorem tw_599 : Cond.instanceMethod yJ0_isLatin1_aae02 ∈ js_good := List.mem_filter.mpr ⟨List.mem_append_right _ (List.mem_of_getElem? (i := 599) (by decide +kernel)), by decide +kernel⟩
theorem tw_600 : Cond.selects RJ0 yJ0_isLatin1_aae02 yJ0_isLatin1_aae02 ∈ js_good := List.mem_filter.mpr ⟨List.mem_append_right _ (List.mem_of_getElem? (i := 600) (by decide +kernel)), by decide +kernel⟩
theorem tw_601 : Cond.code yJ0_isLatin1_aae02 cJ0_isLatin1_aae02 1 (some (FieldType.boolean)) ∈ js_good := List.mem_filter.mpr ⟨List.mem_append_right _ (List.mem_of_getElem? (i := 601) (by decide +kernel)), by decide +kernel⟩
theorem tw_602 : Cond.methodLink RJ0 495 yJ1_charAt_3b067 ∈ js_good := List.mem_filter.mpr ⟨List.mem_append_right _ (List.mem_of_getElem? (i := 602) (by decide +kernel)), by decide +kernel⟩
theorem tw_603 : Cond.static yJ1_charAt_3b067 ∈ js_good := List.mem_filter.mpr ⟨List.mem_append_right _ (List.mem_of_getElem? (i := 603) (by decide +kernel)), by decide +kernel⟩
theorem tw_604 : Cond.code yJ1_charAt_3b067 cJ1_charAt_3b067 2 (some (FieldType.char)) ∈ js_good := List.mem_filter.mpr ⟨List.mem_append_right _ (List.mem_of_getElem? (i := 604) (by decide +kernel)), by decide +kernel⟩
theorem tw_605 : Cond.methodLink RJ1 9 yJ0_checkIndex_df160 ∈ js_good := List.mem_filter.mpr ⟨List.mem_append_right _ (List.mem_of_getElem? (i := 605) (by decide +kernel)), by decide +kernel⟩
theorem tw_606 : Cond.static yJ0_checkIndex_df160 ∈ js_good := List.mem_filter.mpr ⟨List.mem_append_right _ (List.mem_of_getElem? (i := 606) (by decide +kernel)), by decide +kernel⟩
theorem tw_607 : Cond.code yJ0_checkIndex_df160 cJ0_checkIndex_df160 2 none ∈ js_good := List.mem_filter.mpr ⟨List.mem_append_right _ (List.mem_of_getElem? (i := 607) (by decide +kernel)), by decide +kernel⟩
theorem tw_608 : Cond.fieldLink RJ0 1053 RJ3 "SIOOBE_FORMATTER" "Ljava/util/function/BiFunction;" ∈ js_good := List.mem_filter.mpr ⟨List.mem_append_right _ (List.mem_of_getElem? (i := 608) (by decide +kernel)), by decide +kernel⟩
theorem tw_610 : Cond.methodLink RJ0 1059 yJ3_checkIndex_8e157 ∈ js_good := List.mem_filter.mpr ⟨List.mem_append_right _ (List.mem_of_getElem? (i := 610) (by decide +kernel)), by decide +kernel⟩
theorem tw_611 : Cond.static yJ3_checkIndex_8e157 ∈ js_good := List.mem_filter.mpr ⟨List.mem_append_right _ (List.mem_of_getElem? (i := 611) (by decide +kernel)), by decide +kernel⟩
theorem tw_612 : Cond.code yJ3_checkIndex_8e157 cJ3_checkIndex_8e157 3 (some (FieldType.int)) ∈ js_good := List.mem_filter.mpr ⟨List.mem_append_right _ (List.mem_of_getElem? (i := 612) (by decide +kernel)), by decide +kernel⟩
theorem tw_613 : Cond.methodLink RJ0 498 yJ2_charAt_3b067 ∈ js_good := List.mem_filter.mpr ⟨List.mem_append_right _ (List.mem_of_getElem? (i := 613) (by decide +kernel)), by decide +kernel⟩
theorem tw_614 : Cond.static yJ2_charAt_3b067 ∈ js_good := List.mem_filter.mpr ⟨List.mem_append_right _ (List.mem_of_getElem? (i := 614) (by decide +kernel)), by decide +kernel⟩
theorem tw_632 : Cond.methodLink RX5 70 yX5_passSaying ∈ js_good := List.mem_filter.mpr ⟨List.mem_append_right _ (List.mem_of_getElem? (i := 632) (by decide +kernel)), by decide +kernel⟩
theorem tw_634 : Cond.instanceMethod yX5_passSaying ∈ js_good := List.mem_filter.mpr ⟨List.mem_append_right _ (List.mem_of_getElem? (i := 634) (by decide +kernel)), by decide +kernel⟩
theorem tw_635 : Cond.code yX5_passSaying cX5_passSaying 2 (some (FieldType.boolean)) ∈ js_good := List.mem_filter.mpr ⟨List.mem_append_right _ (List.mem_of_getElem? (i := 635) (by decide +kernel)), by decide +kernel⟩
theorem tw_636 : Cond.methodLink RX5 92 yX4_passNumber ∈ js_good := List.mem_filter.mpr ⟨List.mem_append_right _ (List.mem_of_getElem? (i := 636) (by decide +kernel)), by decide +kernel⟩
theorem tw_637 : Cond.instanceMethod yX4_passNumber ∈ js_good := List.mem_filter.mpr ⟨List.mem_append_right _ (List.mem_of_getElem? (i := 637) (by decide +kernel)), by decide +kernel⟩
theorem tw_638 : Cond.selects RX4 yX4_passNumber yX4_passNumber ∈ js_good := List.mem_filter.mpr ⟨List.mem_append_right _ (List.mem_of_getElem? (i := 638) (by decide +kernel)), by decide +kernel⟩
theorem tw_639 : Cond.code yX4_passNumber cX4_passNumber 3 (some (FieldType.int)) ∈ js_good := List.mem_filter.mpr ⟨List.mem_append_right _ (List.mem_of_getElem? (i := 639) (by decide +kernel)), by decide +kernel⟩
theorem tw_642 : Cond.methodLink RX5 75 yX5_passLayer ∈ js_good := List.mem_filter.mpr ⟨List.mem_append_right _ (List.mem_of_getElem? (i := 642) (by decide +kernel)), by decide +kernel⟩
theorem tw_644 : Cond.instanceMethod yX5_passLayer ∈ js_good := List.mem_filter.mpr ⟨List.mem_append_right _ (List.mem_of_getElem? (i := 644) (by decide +kernel)), by decide +kernel⟩
theorem tw_645 : Cond.code yX5_passLayer cX5_passLayer 2 (some (FieldType.boolean)) ∈ js_good := List.mem_filter.mpr ⟨List.mem_append_right _ (List.mem_of_getElem? (i := 645) (by decide +kernel)), by decide +kernel⟩
theorem tw_648 : Cond.methodLink RX5 79 yX5_passDamp ∈ js_good := List.mem_filter.mpr ⟨List.mem_append_right _ (List.mem_of_getElem? (i := 648) (by decide +kernel)), by decide +kernel⟩
theorem tw_650 : Cond.instanceMethod yX5_passDamp ∈ js_good := List.mem_filter.mpr ⟨List.mem_append_right _ (List.mem_of_getElem? (i := 650) (by decide +kernel)), by decide +kernel⟩
theorem tw_651 : Cond.code yX5_passDamp cX5_passDamp 2 (some (FieldType.boolean)) ∈ js_good := List.mem_filter.mpr ⟨List.mem_append_right _ (List.mem_of_getElem? (i := 651) (by decide +kernel)), by decide +kernel⟩
theorem tw_652 : Cond.methodLink RX5 82 yX1_name ∈ js_good := List.mem_filter.mpr ⟨List.mem_append_right _ (List.mem_of_getElem? (i := 652) (by decide +kernel)), by decide +kernel⟩
theorem tw_653 : Cond.static yX1_name ∈ js_good := List.mem_filter.mpr ⟨List.mem_append_right _ (List.mem_of_getElem? (i := 653) (by decide +kernel)), by decide +kernel⟩
theorem tw_654 : Cond.code yX1_name cX1_name 1 (some (FieldType.object "java/lang/String")) ∈ js_good := List.mem_filter.mpr ⟨List.mem_append_right _ (List.mem_of_getElem? (i := 654) (by decide +kernel)), by decide +kernel⟩
theorem tw_661 : Cond.methodLink RX5 88 yX5_passFlue ∈ js_good := List.mem_filter.mpr ⟨List.mem_append_right _ (List.mem_of_getElem? (i := 661) (by decide +kernel)), by decide +kernel⟩
theorem tw_663 : Cond.instanceMethod yX5_passFlue ∈ js_good := List.mem_filter.mpr ⟨List.mem_append_right _ (List.mem_of_getElem? (i := 663) (by decide +kernel)), by decide +kernel⟩
theorem tw_664 : Cond.code yX5_passFlue cX5_passFlue 2 (some (FieldType.boolean)) ∈ js_good := List.mem_filter.mpr ⟨List.mem_append_right _ (List.mem_of_getElem? (i := 664) (by decide +kernel)), by decide +kernel⟩
theorem tw_665 : Cond.methodLink RX5 51 yX5_perform ∈ js_good := List.mem_filter.mpr ⟨List.mem_append_right _ (List.mem_of_getElem? (i := 665) (by decide +kernel)), by decide +kernel⟩
theorem tw_667 : Cond.instanceMethod yX5_perform ∈ js_good := List.mem_filter.mpr ⟨List.mem_append_right _ (List.mem_of_getElem? (i := 667) (by decide +kernel)), by decide +kernel⟩
theorem tw_668 : Cond.code yX5_perform cX5_perform 2 none ∈ js_good := List.mem_filter.mpr ⟨List.mem_append_right _ (List.mem_of_getElem? (i := 668) (by decide +kernel)), by decide +kernel⟩
theorem tw_669 : Cond.methodLink RX5 98 yX3_speak ∈ js_good := List.mem_filter.mpr ⟨List.mem_append_right _ (List.mem_of_getElem? (i := 669) (by decide +kernel)), by decide +kernel⟩
theorem tw_670 : Cond.methodLink RX5 102 yX3_lay ∈ js_good := List.mem_filter.mpr ⟨List.mem_append_right _ (List.mem_of_getElem? (i := 670) (by decide +kernel)), by decide +kernel⟩
theorem tw_671 : Cond.methodLink RX5 107 yX3_addFlue ∈ js_good := List.mem_filter.mpr ⟨List.mem_append_right _ (List.mem_of_getElem? (i := 671) (by decide +kernel)), by decide +kernel⟩
theorem tw_672 : Cond.methodLink RX5 58 yX4_step ∈ js_good := List.mem_filter.mpr ⟨List.mem_append_right _ (List.mem_of_getElem? (i := 672) (by decide +kernel)), by decide +kernel⟩
theorem tw_675 : Cond.instanceMethod yX7_sheet ∈ js_good := List.mem_filter.mpr ⟨List.mem_append_right _ (List.mem_of_getElem? (i := 675) (by decide +kernel)), by decide +kernel⟩
theorem tw_676 : Cond.selects RX7 yX7_sheet yX7_sheet ∈ js_good := List.mem_filter.mpr ⟨List.mem_append_right _ (List.mem_of_getElem? (i := 676) (by decide +kernel)), by decide +kernel⟩
theorem tw_677 : Cond.code yX7_sheet cX7_sheet 4 (some (FieldType.int)) ∈ js_good := List.mem_filter.mpr ⟨List.mem_append_right _ (List.mem_of_getElem? (i := 677) (by decide +kernel)), by decide +kernel⟩
theorem tw_678 : Cond.methodLink RX7 244 yX2_isSheet ∈ js_good := List.mem_filter.mpr ⟨List.mem_append_right _ (List.mem_of_getElem? (i := 678) (by decide +kernel)), by decide +kernel⟩
theorem tw_679 : Cond.static yX2_isSheet ∈ js_good := List.mem_filter.mpr ⟨List.mem_append_right _ (List.mem_of_getElem? (i := 679) (by decide +kernel)), by decide +kernel⟩
theorem tw_680 : Cond.code yX2_isSheet cX2_isSheet 1 (some (FieldType.boolean)) ∈ js_good := List.mem_filter.mpr ⟨List.mem_append_right _ (List.mem_of_getElem? (i := 680) (by decide +kernel)), by decide +kernel⟩
theorem tw_681 : Cond.methodLink RX7 247 yX2_isWidth ∈ js_good := List.mem_filter.mpr ⟨List.mem_append_right _ (List.mem_of_getElem? (i := 681) (by decide +kernel)), by decide +kernel⟩
theorem tw_682 : Cond.static yX2_isWidth ∈ js_good := List.mem_filter.mpr ⟨List.mem_append_right _ (List.mem_of_getElem? (i := 682) (by decide +kernel)), by decide +kernel⟩
theorem tw_683 : Cond.code yX2_isWidth cX2_isWidth 1 (some (FieldType.boolean)) ∈ js_good := List.mem_filter.mpr ⟨List.mem_append_right _ (List.mem_of_getElem? (i := 683) (by decide +kernel)), by decide +kernel⟩
theorem tw_684 : Cond.constant RX7 250 (-1000000007) ∈ js_good := List.mem_filter.mpr ⟨List.mem_append_right _ (List.mem_of_getElem? (i := 684) (by decide +kernel)), by decide +kernel⟩
theorem tw_685 : Cond.methodLink RX7 251 yX2_layOut ∈ js_good := List.mem_filter.mpr ⟨List.mem_append_right _ (List.mem_of_getElem? (i := 685) (by decide +kernel)), by decide +kernel⟩
theorem tw_686 : Cond.instanceMethod yX2_layOut ∈ js_good := List.mem_filter.mpr ⟨List.mem_append_right _ (List.mem_of_getElem? (i := 686) (by decide +kernel)), by decide +kernel⟩
theorem tw_687 : Cond.selects RX2 yX2_layOut yX2_layOut ∈ js_good := List.mem_filter.mpr ⟨List.mem_append_right _ (List.mem_of_getElem? (i := 687) (by decide +kernel)), by decide +kernel⟩
theorem tw_688 : Cond.code yX2_layOut cX2_layOut 5 (some (FieldType.int)) ∈ js_good := List.mem_filter.mpr ⟨List.mem_append_right _ (List.mem_of_getElem? (i := 688) (by decide +kernel)), by decide +kernel⟩
theorem tw_689 : Cond.methodLink RX2 20 yX2_isSheet ∈ js_good := List.mem_filter.mpr ⟨List.mem_append_right _ (List.mem_of_getElem? (i := 689) (by decide +kernel)), by decide +kernel⟩
theorem tw_691 : Cond.instanceMethod yX7_write ∈ js_good := List.mem_filter.mpr ⟨List.mem_append_right _ (List.mem_of_getElem? (i := 691) (by decide +kernel)), by decide +kernel⟩
theorem tw_692 : Cond.selects RX7 yX7_write yX7_write ∈ js_good := List.mem_filter.mpr ⟨List.mem_append_right _ (List.mem_of_getElem? (i := 692) (by decide +kernel)), by decide +kernel⟩
theorem tw_693 : Cond.code yX7_write cX7_write 8 (some (FieldType.long)) ∈ js_good := List.mem_filter.mpr ⟨List.mem_append_right _ (List.mem_of_getElem? (i := 693) (by decide +kernel)), by decide +kernel⟩
theorem tw_694 : Cond.methodLink RX7 254 yX7_sheetFinding ∈ js_good := List.mem_filter.mpr ⟨List.mem_append_right _ (List.mem_of_getElem? (i := 694) (by decide +kernel)), by decide +kernel⟩
theorem tw_696 : Cond.instanceMethod yX7_sheetFinding ∈ js_good := List.mem_filter.mpr ⟨List.mem_append_right _ (List.mem_of_getElem? (i := 696) (by decide +kernel)), by decide +kernel⟩
theorem tw_697 : Cond.code yX7_sheetFinding cX7_sheetFinding 2 (some (FieldType.int)) ∈ js_good := List.mem_filter.mpr ⟨List.mem_append_right _ (List.mem_of_getElem? (i := 697) (by decide +kernel)), by decide +kernel⟩
theorem tw_698 : Cond.methodLink RX7 266 yX2_isMissing ∈ js_good := List.mem_filter.mpr ⟨List.mem_append_right _ (List.mem_of_getElem? (i := 698) (by decide +kernel)), by decide +kernel⟩
theorem tw_699 : Cond.instanceMethod yX2_isMissing ∈ js_good := List.mem_filter.mpr ⟨List.mem_append_right _ (List.mem_of_getElem? (i := 699) (by decide +kernel)), by decide +kernel⟩
theorem tw_700 : Cond.selects RX2 yX2_isMissing yX2_isMissing ∈ js_good := List.mem_filter.mpr ⟨List.mem_append_right _ (List.mem_of_getElem? (i := 700) (by decide +kernel)), by decide +kernel⟩
theorem tw_701 : Cond.code yX2_isMissing cX2_isMissing 2 (some (FieldType.boolean)) ∈ js_good := List.mem_filter.mpr ⟨List.mem_append_right _ (List.mem_of_getElem? (i := 701) (by decide +kernel)), by decide +kernel⟩
theorem tw_702 : Cond.methodLink RX2 24 yX2_width ∈ js_good := List.mem_filter.mpr ⟨List.mem_append_right _ (List.mem_of_getElem? (i := 702) (by decide +kernel)), by decide +kernel⟩
theorem tw_703 : Cond.instanceMethod yX2_width ∈ js_good := List.mem_filter.mpr ⟨List.mem_append_right _ (List.mem_of_getElem? (i := 703) (by decide +kernel)), by decide +kernel⟩
theorem tw_704 : Cond.selects RX2 yX2_width yX2_width ∈ js_good := List.mem_filter.mpr ⟨List.mem_append_right _ (List.mem_of_getElem? (i := 704) (by decide +kernel)), by decide +kernel⟩
theorem tw_705 : Cond.code yX2_width cX2_width 2 (some (FieldType.int)) ∈ js_good := List.mem_filter.mpr ⟨List.mem_append_right _ (List.mem_of_getElem? (i := 705) (by decide +kernel)), by decide +kernel⟩
theorem tw_706 : Cond.constant RX7 269 (-1000000006) ∈ js_good := List.mem_filter.mpr ⟨List.mem_append_right _ (List.mem_of_getElem? (i := 706) (by decide +kernel)), by decide +kernel⟩
theorem tw_707 : Cond.methodLink RX7 257 yX2_length ∈ js_good := List.mem_filter.mpr ⟨List.mem_append_right _ (List.mem_of_getElem? (i := 707) (by decide +kernel)), by decide +kernel⟩
theorem tw_708 : Cond.instanceMethod yX2_length ∈ js_good := List.mem_filter.mpr ⟨List.mem_append_right _ (List.mem_of_getElem? (i := 708) (by decide +kernel)), by decide +kernel⟩
theorem tw_709 : Cond.selects RX2 yX2_length yX2_length ∈ js_good := List.mem_filter.mpr ⟨List.mem_append_right _ (List.mem_of_getElem? (i := 709) (by decide +kernel)), by decide +kernel⟩
theorem tw_710 : Cond.code yX2_length cX2_length 2 (some (FieldType.int)) ∈ js_good := List.mem_filter.mpr ⟨List.mem_append_right _ (List.mem_of_getElem? (i := 710) (by decide +kernel)), by decide +kernel⟩
theorem tw_711 : Cond.methodLink RX7 259 yX2_number ∈ js_good := List.mem_filter.mpr ⟨List.mem_append_right _ (List.mem_of_getElem? (i := 711) (by decide +kernel)), by decide +kernel⟩
theorem tw_712 : Cond.instanceMethod yX2_number ∈ js_good := List.mem_filter.mpr ⟨List.mem_append_right _ (List.mem_of_getElem? (i := 712) (by decide +kernel)), by decide +kernel⟩
theorem tw_713 : Cond.selects RX2 yX2_number yX2_number ∈ js_good := List.mem_filter.mpr ⟨List.mem_append_right _ (List.mem_of_getElem? (i := 713) (by decide +kernel)), by decide +kernel⟩
theorem tw_714 : Cond.code yX2_number cX2_number 3 (some (FieldType.long)) ∈ js_good := List.mem_filter.mpr ⟨List.mem_append_right _ (List.mem_of_getElem? (i := 714) (by decide +kernel)), by decide +kernel⟩
theorem tw_715 : Cond.methodLink RX2 31 yX2_hasRange ∈ js_good := List.mem_filter.mpr ⟨List.mem_append_right _ (List.mem_of_getElem? (i := 715) (by decide +kernel)), by decide +kernel⟩
theorem tw_716 : Cond.instanceMethod yX2_hasRange ∈ js_good := List.mem_filter.mpr ⟨List.mem_append_right _ (List.mem_of_getElem? (i := 716) (by decide +kernel)), by decide +kernel⟩
theorem tw_717 : Cond.selects RX2 yX2_hasRange yX2_hasRange ∈ js_good := List.mem_filter.mpr ⟨List.mem_append_right _ (List.mem_of_getElem? (i := 717) (by decide +kernel)), by decide +kernel⟩
theorem tw_718 : Cond.code yX2_hasRange cX2_hasRange 4 (some (FieldType.boolean)) ∈ js_good := List.mem_filter.mpr ⟨List.mem_append_right _ (List.mem_of_getElem? (i := 718) (by decide +kernel)), by decide +kernel⟩
theorem tw_719 : Cond.methodLink RX2 28 yX2_length ∈ js_good := List.mem_filter.mpr ⟨List.mem_append_right _ (List.mem_of_getElem? (i := 719) (by decide +kernel)), by decide +kernel⟩
theorem tw_720 : Cond.methodLink RX7 262 yX2_put ∈ js_good := List.mem_filter.mpr ⟨List.mem_append_right _ (List.mem_of_getElem? (i := 720) (by decide +kernel)), by decide +kernel⟩
theorem tw_721 : Cond.instanceMethod yX2_put ∈ js_good := List.mem_filter.mpr ⟨List.mem_append_right _ (List.mem_of_getElem? (i := 721) (by decide +kernel)), by decide +kernel⟩
theorem tw_722 : Cond.selects RX2 yX2_put yX2_put ∈ js_good := List.mem_filter.mpr ⟨List.mem_append_right _ (List.mem_of_getElem? (i := 722) (by decide +kernel)), by decide +kernel⟩
theorem tw_723 : Cond.code yX2_put cX2_put 5 none ∈ js_good := List.mem_filter.mpr ⟨List.mem_append_right _ (List.mem_of_getElem? (i := 723) (by decide +kernel)), by decide +kernel⟩
theorem tw_724 : Cond.methodLink RX2 35 yX2_cut ∈ js_good := List.mem_filter.mpr ⟨List.mem_append_right _ (List.mem_of_getElem? (i := 724) (by decide +kernel)), by decide +kernel⟩
theorem tw_725 : Cond.static yX2_cut ∈ js_good := List.mem_filter.mpr ⟨List.mem_append_right _ (List.mem_of_getElem? (i := 725) (by decide +kernel)), by decide +kernel⟩
theorem tw_726 : Cond.code yX2_cut cX2_cut 3 (some (FieldType.long)) ∈ js_good := List.mem_filter.mpr ⟨List.mem_append_right _ (List.mem_of_getElem? (i := 726) (by decide +kernel)), by decide +kernel⟩
theorem tw_728 : Cond.instanceMethod yX7_copy ∈ js_good := List.mem_filter.mpr ⟨List.mem_append_right _ (List.mem_of_getElem? (i := 728) (by decide +kernel)), by decide +kernel⟩
theorem tw_729 : Cond.selects RX7 yX7_copy yX7_copy ∈ js_good := List.mem_filter.mpr ⟨List.mem_append_right _ (List.mem_of_getElem? (i := 729) (by decide +kernel)), by decide +kernel⟩
theorem tw_730 : Cond.code yX7_copy cX7_copy 6 (some (FieldType.int)) ∈ js_good := List.mem_filter.mpr ⟨List.mem_append_right _ (List.mem_of_getElem? (i := 730) (by decide +kernel)), by decide +kernel⟩
theorem tw_731 : Cond.methodLink RX7 270 yX2_width ∈ js_good := List.mem_filter.mpr ⟨List.mem_append_right _ (List.mem_of_getElem? (i := 731) (by decide +kernel)), by decide +kernel⟩
theorem tw_732 : Cond.methodLink RX7 273 yX2_hasRange ∈ js_good := List.mem_filter.mpr ⟨List.mem_append_right _ (List.mem_of_getElem? (i := 732) (by decide +kernel)), by decide +kernel⟩
theorem tw_733 : Cond.methodLink RX7 276 yX2_move ∈ js_good := List.mem_filter.mpr ⟨List.mem_append_right _ (List.mem_of_getElem? (i := 733) (by decide +kernel)), by decide +kernel⟩
theorem tw_734 : Cond.instanceMethod yX2_move ∈ js_good := List.mem_filter.mpr ⟨List.mem_append_right _ (List.mem_of_getElem? (i := 734) (by decide +kernel)), by decide +kernel⟩
theorem tw_735 : Cond.selects RX2 yX2_move yX2_move ∈ js_good := List.mem_filter.mpr ⟨List.mem_append_right _ (List.mem_of_getElem? (i := 735) (by decide +kernel)), by decide +kernel⟩
theorem tw_736 : Cond.code yX2_move cX2_move 6 none ∈ js_good := List.mem_filter.mpr ⟨List.mem_append_right _ (List.mem_of_getElem? (i := 736) (by decide +kernel)), by decide +kernel⟩
theorem tw_737 : Cond.methodLink RX2 39 arraycopyName ∈ js_good := List.mem_filter.mpr ⟨List.mem_append_right _ (List.mem_of_getElem? (i := 737) (by decide +kernel)), by decide +kernel⟩
theorem tw_738 : Cond.static arraycopyName ∈ js_good := List.mem_filter.mpr ⟨List.mem_append_right _ (List.mem_of_getElem? (i := 738) (by decide +kernel)), by decide +kernel⟩
theorem tw_739 : Cond.native arraycopyName ∈ js_good := List.mem_filter.mpr ⟨List.mem_append_right _ (List.mem_of_getElem? (i := 739) (by decide +kernel)), by decide +kernel⟩
theorem tw_741 : Cond.instanceMethod yX7_lays ∈ js_good := List.mem_filter.mpr ⟨List.mem_append_right _ (List.mem_of_getElem? (i := 741) (by decide +kernel)), by decide +kernel⟩
theorem tw_742 : Cond.selects RX7 yX7_lays yX7_lays ∈ js_good := List.mem_filter.mpr ⟨List.mem_append_right _ (List.mem_of_getElem? (i := 742) (by decide +kernel)), by decide +kernel⟩
theorem tw_743 : Cond.code yX7_lays cX7_lays 8 (some (FieldType.int)) ∈ js_good := List.mem_filter.mpr ⟨List.mem_append_right _ (List.mem_of_getElem? (i := 743) (by decide +kernel)), by decide +kernel⟩
theorem tw_744 : Cond.methodLink RX7 280 yX7_sheetAndFlueFinding ∈ js_good := List.mem_filter.mpr ⟨List.mem_append_right _ (List.mem_of_getElem? (i := 744) (by decide +kernel)), by decide +kernel⟩
theorem tw_746 : Cond.instanceMethod yX7_sheetAndFlueFinding ∈ js_good := List.mem_filter.mpr ⟨List.mem_append_right _ (List.mem_of_getElem? (i := 746) (by decide +kernel)), by decide +kernel⟩
theorem tw_747 : Cond.code yX7_sheetAndFlueFinding cX7_sheetAndFlueFinding 4 (some (FieldType.int)) ∈ js_good := List.mem_filter.mpr ⟨List.mem_append_right _ (List.mem_of_getElem? (i := 747) (by decide +kernel)), by decide +kernel⟩
theorem tw_748 : Cond.constantLong RX7 283 (16) ∈ js_good := List.mem_filter.mpr ⟨List.mem_append_right _ (List.mem_of_getElem? (i := 748) (by decide +kernel)), by decide +kernel⟩
theorem tw_750 : Cond.instanceMethod yX7_book ∈ js_good := List.mem_filter.mpr ⟨List.mem_append_right _ (List.mem_of_getElem? (i := 750) (by decide +kernel)), by decide +kernel⟩
theorem tw_751 : Cond.selects RX7 yX7_book yX7_book ∈ js_good := List.mem_filter.mpr ⟨List.mem_append_right _ (List.mem_of_getElem? (i := 751) (by decide +kernel)), by decide +kernel⟩
theorem tw_752 : Cond.code yX7_book cX7_book 5 (some (FieldType.int)) ∈ js_good := List.mem_filter.mpr ⟨List.mem_append_right _ (List.mem_of_getElem? (i := 752) (by decide +kernel)), by decide +kernel⟩
theorem tw_753 : Cond.constantLong RX7 285 (-1) ∈ js_good := List.mem_filter.mpr ⟨List.mem_append_right _ (List.mem_of_getElem? (i := 753) (by decide +kernel)), by decide +kernel⟩
theorem tw_755 : Cond.instanceMethod yX7_read ∈ js_good := List.mem_filter.mpr ⟨List.mem_append_right _ (List.mem_of_getElem? (i := 755) (by decide +kernel)), by decide +kernel⟩
theorem tw_756 : Cond.selects RX7 yX7_read yX7_read ∈ js_good := List.mem_filter.mpr ⟨List.mem_append_right _ (List.mem_of_getElem? (i := 756) (by decide +kernel)), by decide +kernel⟩
theorem tw_757 : Cond.code yX7_read cX7_read 7 (some (FieldType.int)) ∈ js_good := List.mem_filter.mpr ⟨List.mem_append_right _ (List.mem_of_getElem? (i := 757) (by decide +kernel)), by decide +kernel⟩
theorem tw_758 : Cond.methodLink RX7 287 yX7_isJustBrought ∈ js_good := List.mem_filter.mpr ⟨List.mem_append_right _ (List.mem_of_getElem? (i := 758) (by decide +kernel)), by decide +kernel⟩
theorem tw_760 : Cond.instanceMethod yX7_isJustBrought ∈ js_good := List.mem_filter.mpr ⟨List.mem_append_right _ (List.mem_of_getElem? (i := 760) (by decide +kernel)), by decide +kernel⟩
theorem tw_761 : Cond.code yX7_isJustBrought cX7_isJustBrought 3 (some (FieldType.boolean)) ∈ js_good := List.mem_filter.mpr ⟨List.mem_append_right _ (List.mem_of_getElem? (i := 761) (by decide +kernel)), by decide +kernel⟩
theorem tw_763 : Cond.instanceMethod yX7_image ∈ js_good := List.mem_filter.mpr ⟨List.mem_append_right _ (List.mem_of_getElem? (i := 763) (by decide +kernel)), by decide +kernel⟩
theorem tw_764 : Cond.selects RX7 yX7_image yX7_image ∈ js_good := List.mem_filter.mpr ⟨List.mem_append_right _ (List.mem_of_getElem? (i := 764) (by decide +kernel)), by decide +kernel⟩
theorem tw_765 : Cond.code yX7_image cX7_image 1 (some (FieldType.int)) ∈ js_good := List.mem_filter.mpr ⟨List.mem_append_right _ (List.mem_of_getElem? (i := 765) (by decide +kernel)), by decide +kernel⟩
theorem tw_766 : Cond.methodLink RX7 290 yX3_become ∈ js_good := List.mem_filter.mpr ⟨List.mem_append_right _ (List.mem_of_getElem? (i := 766) (by decide +kernel)), by decide +kernel⟩
theorem tw_767 : Cond.instanceMethod yX3_become ∈ js_good := List.mem_filter.mpr ⟨List.mem_append_right _ (List.mem_of_getElem? (i := 767) (by decide +kernel)), by decide +kernel⟩
theorem tw_768 : Cond.selects RX3 yX3_become yX3_become ∈ js_good := List.mem_filter.mpr ⟨List.mem_append_right _ (List.mem_of_getElem? (i := 768) (by decide +kernel)), by decide +kernel⟩
theorem tw_769 : Cond.code yX3_become cX3_become 2 none ∈ js_good := List.mem_filter.mpr ⟨List.mem_append_right _ (List.mem_of_getElem? (i := 769) (by decide +kernel)), by decide +kernel⟩
theorem tw_770 : Cond.methodLink RX3 34 arraycopyName ∈ js_good := List.mem_filter.mpr ⟨List.mem_append_right _ (List.mem_of_getElem? (i := 770) (by decide +kernel)), by decide +kernel⟩
theorem tw_772 : Cond.instanceMethod yX7_undo ∈ js_good := List.mem_filter.mpr ⟨List.mem_append_right _ (List.mem_of_getElem? (i := 772) (by decide +kernel)), by decide +kernel⟩
theorem tw_773 : Cond.selects RX7 yX7_undo yX7_undo ∈ js_good := List.mem_filter.mpr ⟨List.mem_append_right _ (List.mem_of_getElem? (i := 773) (by decide +kernel)), by decide +kernel⟩
theorem tw_774 : Cond.code yX7_undo cX7_undo 1 (some (FieldType.int)) ∈ js_good := List.mem_filter.mpr ⟨List.mem_append_right _ (List.mem_of_getElem? (i := 774) (by decide +kernel)), by decide +kernel⟩
theorem tw_776 : Cond.instanceMethod yX7_tear ∈ js_good := List.mem_filter.mpr ⟨List.mem_append_right _ (List.mem_of_getElem? (i := 776) (by decide +kernel)), by decide +kernel⟩
theorem tw_777 : Cond.selects RX7 yX7_tear yX7_tear ∈ js_good := List.mem_filter.mpr ⟨List.mem_append_right _ (List.mem_of_getElem? (i := 777) (by decide +kernel)), by decide +kernel⟩
theorem tw_778 : Cond.code yX7_tear cX7_tear 2 (some (FieldType.int)) ∈ js_good := List.mem_filter.mpr ⟨List.mem_append_right _ (List.mem_of_getElem? (i := 778) (by decide +kernel)), by decide +kernel⟩
theorem tw_780 : Cond.instanceMethod yX7_count ∈ js_good := List.mem_filter.mpr ⟨List.mem_append_right _ (List.mem_of_getElem? (i := 780) (by decide +kernel)), by decide +kernel⟩
theorem tw_781 : Cond.selects RX7 yX7_count yX7_count ∈ js_good := List.mem_filter.mpr ⟨List.mem_append_right _ (List.mem_of_getElem? (i := 781) (by decide +kernel)), by decide +kernel⟩
theorem tw_782 : Cond.code yX7_count cX7_count 2 (some (FieldType.int)) ∈ js_good := List.mem_filter.mpr ⟨List.mem_append_right _ (List.mem_of_getElem? (i := 782) (by decide +kernel)), by decide +kernel⟩
theorem tw_783 : Cond.methodLink RX7 294 yX3_fullBends ∈ js_good := List.mem_filter.mpr ⟨List.mem_append_right _ (List.mem_of_getElem? (i := 783) (by decide +kernel)), by decide +kernel⟩
theorem tw_784 : Cond.instanceMethod yX3_fullBends ∈ js_good := List.mem_filter.mpr ⟨List.mem_append_right _ (List.mem_of_getElem? (i := 784) (by decide +kernel)), by decide +kernel⟩
theorem tw_785 : Cond.selects RX3 yX3_fullBends yX3_fullBends ∈ js_good := List.mem_filter.mpr ⟨List.mem_append_right _ (List.mem_of_getElem? (i := 785) (by decide +kernel)), by decide +kernel⟩
theorem tw_786 : Cond.code yX3_fullBends cX3_fullBends 4 (some (FieldType.int)) ∈ js_good := List.mem_filter.mpr ⟨List.mem_append_right _ (List.mem_of_getElem? (i := 786) (by decide +kernel)), by decide +kernel⟩
theorem tw_788 : Cond.instanceMethod yX7_status ∈ js_good := List.mem_filter.mpr ⟨List.mem_append_right _ (List.mem_of_getElem? (i := 788) (by decide +kernel)), by decide +kernel⟩
theorem tw_789 : Cond.selects RX7 yX7_status yX7_status ∈ js_good := List.mem_filter.mpr ⟨List.mem_append_right _ (List.mem_of_getElem? (i := 789) (by decide +kernel)), by decide +kernel⟩
theorem tw_790 : Cond.code yX7_status cX7_status 4 (some (FieldType.int)) ∈ js_good := List.mem_filter.mpr ⟨List.mem_append_right _ (List.mem_of_getElem? (i := 790) (by decide +kernel)), by decide +kernel⟩
theorem tw_797 : Cond.fieldLink RX8 7 RX8 "s" "[I" ∈ js_good := List.mem_filter.mpr ⟨List.mem_append_right _ (List.mem_of_getElem? (i := 797) (by decide +kernel)), by decide +kernel⟩
theorem tw_798 : Cond.fieldLink RX8 13 RX8 "keptS" "[I" ∈ js_good := List.mem_filter.mpr ⟨List.mem_append_right _ (List.mem_of_getElem? (i := 798) (by decide +kernel)), by decide +kernel⟩
theorem tw_799 : Cond.fieldLink RX8 16 RX8 "other" "[I" ∈ js_good := List.mem_filter.mpr ⟨List.mem_append_right _ (List.mem_of_getElem? (i := 799) (by decide +kernel)), by decide +kernel⟩
theorem tw_800 : Cond.fieldLink RX8 19 RX8 "aside" "[I" ∈ js_good := List.mem_filter.mpr ⟨List.mem_append_right _ (List.mem_of_getElem? (i := 800) (by decide +kernel)), by decide +kernel⟩
theorem tw_801 : Cond.fieldLink RX8 22 RX8 "statuses" "[I" ∈ js_good := List.mem_filter.mpr ⟨List.mem_append_right _ (List.mem_of_getElem? (i := 801) (by decide +kernel)), by decide +kernel⟩
theorem tw_802 : Cond.fieldLink RX8 325 RX8 "isKept" "Z" ∈ js_good := List.mem_filter.mpr ⟨List.mem_append_right _ (List.mem_of_getElem? (i := 802) (by decide +kernel)), by decide +kernel⟩
theorem tw_803 : Cond.fieldLink RX8 25 RX8 "came" "[I" ∈ js_good := List.mem_filter.mpr ⟨List.mem_append_right _ (List.mem_of_getElem? (i := 803) (by decide +kernel)), by decide +kernel⟩
theorem tw_804 : Cond.fieldLink RX8 167 RX8 "cameMany" "I" ∈ js_good := List.mem_filter.mpr ⟨List.mem_append_right _ (List.mem_of_getElem? (i := 804) (by decide +kernel)), by decide +kernel⟩
theorem tw_805 : Cond.fieldLink RX8 28 RX8 "tape" "[I" ∈ js_good := List.mem_filter.mpr ⟨List.mem_append_right _ (List.mem_of_getElem? (i := 805) (by decide +kernel)), by decide +kernel⟩
theorem tw_806 : Cond.fieldLink RX8 204 RX8 "taped" "I" ∈ js_good := List.mem_filter.mpr ⟨List.mem_append_right _ (List.mem_of_getElem? (i := 806) (by decide +kernel)), by decide +kernel⟩
theorem tw_807 : Cond.fieldLink RX8 218 RX8 "from" "I" ∈ js_good := List.mem_filter.mpr ⟨List.mem_append_right _ (List.mem_of_getElem? (i := 807) (by decide +kernel)), by decide +kernel⟩
theorem tw_808 : Cond.fieldLink RX8 215 RX8 "to" "I" ∈ js_good := List.mem_filter.mpr ⟨List.mem_append_right _ (List.mem_of_getElem? (i := 808) (by decide +kernel)), by decide +kernel⟩
theorem tw_809 : Cond.fieldLink RX8 241 RX8 "value" "I" ∈ js_good := List.mem_filter.mpr ⟨List.mem_append_right _ (List.mem_of_getElem? (i := 809) (by decide +kernel)), by decide +kernel⟩
theorem tw_810 : Cond.fieldLink RX8 230 RX8 "isWrong" "Z" ∈ js_good := List.mem_filter.mpr ⟨List.mem_append_right _ (List.mem_of_getElem? (i := 810) (by decide +kernel)), by decide +kernel⟩
theorem tw_811 : Cond.fieldLink RX8 31 RX8 "bitsOf" "[I" ∈ js_good := List.mem_filter.mpr ⟨List.mem_append_right _ (List.mem_of_getElem? (i := 811) (by decide +kernel)), by decide +kernel⟩
theorem tw_812 : Cond.fieldLink RX8 34 RX8 "sizeOf" "[I" ∈ js_good := List.mem_filter.mpr ⟨List.mem_append_right _ (List.mem_of_getElem? (i := 812) (by decide +kernel)), by decide +kernel⟩
theorem tw_813 : Cond.fieldLink RX8 37 RX8 "numbers" "[J" ∈ js_good := List.mem_filter.mpr ⟨List.mem_append_right _ (List.mem_of_getElem? (i := 813) (by decide +kernel)), by decide +kernel⟩
theorem tw_814 : Cond.fieldLink RX8 41 RX8 "moved" "[J" ∈ js_good := List.mem_filter.mpr ⟨List.mem_append_right _ (List.mem_of_getElem? (i := 814) (by decide +kernel)), by decide +kernel⟩
theorem tw_853 : Cond.instanceMethod yX8_flue ∈ js_good := List.mem_filter.mpr ⟨List.mem_append_right _ (List.mem_of_getElem? (i := 853) (by decide +kernel)), by decide +kernel⟩
theorem tw_854 : Cond.selects RX8 yX8_flue yX8_flue ∈ js_good := List.mem_filter.mpr ⟨List.mem_append_right _ (List.mem_of_getElem? (i := 854) (by decide +kernel)), by decide +kernel⟩
theorem tw_855 : Cond.code yX8_flue cX8_flue 2 (some (FieldType.int)) ∈ js_good := List.mem_filter.mpr ⟨List.mem_append_right _ (List.mem_of_getElem? (i := 855) (by decide +kernel)), by decide +kernel⟩
theorem tw_856 : Cond.methodLink RX8 63 yX8_isKind ∈ js_good := List.mem_filter.mpr ⟨List.mem_append_right _ (List.mem_of_getElem? (i := 856) (by decide +kernel)), by decide +kernel⟩
theorem tw_857 : Cond.static yX8_isKind ∈ js_good := List.mem_filter.mpr ⟨List.mem_append_right _ (List.mem_of_getElem? (i := 857) (by decide +kernel)), by decide +kernel⟩
theorem tw_858 : Cond.code yX8_isKind cX8_isKind 1 (some (FieldType.boolean)) ∈ js_good := List.mem_filter.mpr ⟨List.mem_append_right _ (List.mem_of_getElem? (i := 858) (by decide +kernel)), by decide +kernel⟩
theorem tw_859 : Cond.constantLong RX8 51 (5) ∈ js_good := List.mem_filter.mpr ⟨List.mem_append_right _ (List.mem_of_getElem? (i := 859) (by decide +kernel)), by decide +kernel⟩
theorem tw_860 : Cond.methodLink RX8 45 yX8_in ∈ js_good := List.mem_filter.mpr ⟨List.mem_append_right _ (List.mem_of_getElem? (i := 860) (by decide +kernel)), by decide +kernel⟩
theorem tw_861 : Cond.static yX8_in ∈ js_good := List.mem_filter.mpr ⟨List.mem_append_right _ (List.mem_of_getElem? (i := 861) (by decide +kernel)), by decide +kernel⟩
theorem tw_862 : Cond.code yX8_in cX8_in 6 (some (FieldType.boolean)) ∈ js_good := List.mem_filter.mpr ⟨List.mem_append_right _ (List.mem_of_getElem? (i := 862) (by decide +kernel)), by decide +kernel⟩
theorem tw_863 : Cond.constant RX8 44 (-1000000001) ∈ js_good := List.mem_filter.mpr ⟨List.mem_append_right _ (List.mem_of_getElem? (i := 863) (by decide +kernel)), by decide +kernel⟩
theorem tw_864 : Cond.methodLink RX8 67 yX8_finds ∈ js_good := List.mem_filter.mpr ⟨List.mem_append_right _ (List.mem_of_getElem? (i := 864) (by decide +kernel)), by decide +kernel⟩
theorem tw_866 : Cond.instanceMethod yX8_finds ∈ js_good := List.mem_filter.mpr ⟨List.mem_append_right _ (List.mem_of_getElem? (i := 866) (by decide +kernel)), by decide +kernel⟩
theorem tw_867 : Cond.code yX8_finds cX8_finds 2 (some (FieldType.int)) ∈ js_good := List.mem_filter.mpr ⟨List.mem_append_right _ (List.mem_of_getElem? (i := 867) (by decide +kernel)), by decide +kernel⟩
theorem tw_868 : Cond.constant RX8 71 (-1000000002) ∈ js_good := List.mem_filter.mpr ⟨List.mem_append_right _ (List.mem_of_getElem? (i := 868) (by decide +kernel)), by decide +kernel⟩
theorem tw_869 : Cond.methodLink RX8 72 yX8_adds ∈ js_good := List.mem_filter.mpr ⟨List.mem_append_right _ (List.mem_of_getElem? (i := 869) (by decide +kernel)), by decide +kernel⟩
theorem tw_871 : Cond.instanceMethod yX8_adds ∈ js_good := List.mem_filter.mpr ⟨List.mem_append_right _ (List.mem_of_getElem? (i := 871) (by decide +kernel)), by decide +kernel⟩
theorem tw_872 : Cond.code yX8_adds cX8_adds 4 (some (FieldType.int)) ∈ js_good := List.mem_filter.mpr ⟨List.mem_append_right _ (List.mem_of_getElem? (i := 872) (by decide +kernel)), by decide +kernel⟩
theorem tw_873 : Cond.methodLink RX8 59 yX8_place ∈ js_good := List.mem_filter.mpr ⟨List.mem_append_right _ (List.mem_of_getElem? (i := 873) (by decide +kernel)), by decide +kernel⟩
theorem tw_874 : Cond.static yX8_place ∈ js_good := List.mem_filter.mpr ⟨List.mem_append_right _ (List.mem_of_getElem? (i := 874) (by decide +kernel)), by decide +kernel⟩
theorem tw_875 : Cond.code yX8_place cX8_place 2 (some (FieldType.int)) ∈ js_good := List.mem_filter.mpr ⟨List.mem_append_right _ (List.mem_of_getElem? (i := 875) (by decide +kernel)), by decide +kernel⟩
theorem tw_877 : Cond.instanceMethod yX8_of ∈ js_good := List.mem_filter.mpr ⟨List.mem_append_right _ (List.mem_of_getElem? (i := 877) (by decide +kernel)), by decide +kernel⟩
theorem tw_878 : Cond.selects RX8 yX8_of yX8_of ∈ js_good := List.mem_filter.mpr ⟨List.mem_append_right _ (List.mem_of_getElem? (i := 878) (by decide +kernel)), by decide +kernel⟩
theorem tw_879 : Cond.code yX8_of cX8_of 3 (some (FieldType.int)) ∈ js_good := List.mem_filter.mpr ⟨List.mem_append_right _ (List.mem_of_getElem? (i := 879) (by decide +kernel)), by decide +kernel⟩
theorem tw_880 : Cond.methodLink RX8 91 yX8_isFlue ∈ js_good := List.mem_filter.mpr ⟨List.mem_append_right _ (List.mem_of_getElem? (i := 880) (by decide +kernel)), by decide +kernel⟩
theorem tw_882 : Cond.instanceMethod yX8_isFlue ∈ js_good := List.mem_filter.mpr ⟨List.mem_append_right _ (List.mem_of_getElem? (i := 882) (by decide +kernel)), by decide +kernel⟩
theorem tw_883 : Cond.code yX8_isFlue cX8_isFlue 2 (some (FieldType.boolean)) ∈ js_good := List.mem_filter.mpr ⟨List.mem_append_right _ (List.mem_of_getElem? (i := 883) (by decide +kernel)), by decide +kernel⟩
theorem tw_884 : Cond.constantLong RX8 94 (4) ∈ js_good := List.mem_filter.mpr ⟨List.mem_append_right _ (List.mem_of_getElem? (i := 884) (by decide +kernel)), by decide +kernel⟩
theorem tw_885 : Cond.methodLink RX8 75 yX8_kindOf ∈ js_good := List.mem_filter.mpr ⟨List.mem_append_right _ (List.mem_of_getElem? (i := 885) (by decide +kernel)), by decide +kernel⟩
theorem tw_887 : Cond.instanceMethod yX8_kindOf ∈ js_good := List.mem_filter.mpr ⟨List.mem_append_right _ (List.mem_of_getElem? (i := 887) (by decide +kernel)), by decide +kernel⟩
theorem tw_888 : Cond.code yX8_kindOf cX8_kindOf 2 (some (FieldType.int)) ∈ js_good := List.mem_filter.mpr ⟨List.mem_append_right _ (List.mem_of_getElem? (i := 888) (by decide +kernel)), by decide +kernel⟩
theorem tw_889 : Cond.methodLink RX8 96 yX8_layersOf ∈ js_good := List.mem_filter.mpr ⟨List.mem_append_right _ (List.mem_of_getElem? (i := 889) (by decide +kernel)), by decide +kernel⟩
theorem tw_891 : Cond.instanceMethod yX8_layersOf ∈ js_good := List.mem_filter.mpr ⟨List.mem_append_right _ (List.mem_of_getElem? (i := 891) (by decide +kernel)), by decide +kernel⟩
theorem tw_892 : Cond.code yX8_layersOf cX8_layersOf 4 (some (FieldType.int)) ∈ js_good := List.mem_filter.mpr ⟨List.mem_append_right _ (List.mem_of_getElem? (i := 892) (by decide +kernel)), by decide +kernel⟩
theorem tw_893 : Cond.methodLink RX8 78 yX8_layers ∈ js_good := List.mem_filter.mpr ⟨List.mem_append_right _ (List.mem_of_getElem? (i := 893) (by decide +kernel)), by decide +kernel⟩
theorem tw_895 : Cond.instanceMethod yX8_layers ∈ js_good := List.mem_filter.mpr ⟨List.mem_append_right _ (List.mem_of_getElem? (i := 895) (by decide +kernel)), by decide +kernel⟩
theorem tw_896 : Cond.code yX8_layers cX8_layers 3 (some (FieldType.int)) ∈ js_good := List.mem_filter.mpr ⟨List.mem_append_right _ (List.mem_of_getElem? (i := 896) (by decide +kernel)), by decide +kernel⟩
theorem tw_897 : Cond.methodLink RX8 99 yX8_wordsOf ∈ js_good := List.mem_filter.mpr ⟨List.mem_append_right _ (List.mem_of_getElem? (i := 897) (by decide +kernel)), by decide +kernel⟩
theorem tw_899 : Cond.instanceMethod yX8_wordsOf ∈ js_good := List.mem_filter.mpr ⟨List.mem_append_right _ (List.mem_of_getElem? (i := 899) (by decide +kernel)), by decide +kernel⟩
theorem tw_900 : Cond.code yX8_wordsOf cX8_wordsOf 4 (some (FieldType.int)) ∈ js_good := List.mem_filter.mpr ⟨List.mem_append_right _ (List.mem_of_getElem? (i := 900) (by decide +kernel)), by decide +kernel⟩
theorem tw_901 : Cond.methodLink RX8 88 yX8_wordsAt ∈ js_good := List.mem_filter.mpr ⟨List.mem_append_right _ (List.mem_of_getElem? (i := 901) (by decide +kernel)), by decide +kernel⟩
theorem tw_903 : Cond.instanceMethod yX8_wordsAt ∈ js_good := List.mem_filter.mpr ⟨List.mem_append_right _ (List.mem_of_getElem? (i := 903) (by decide +kernel)), by decide +kernel⟩
theorem tw_904 : Cond.code yX8_wordsAt cX8_wordsAt 5 (some (FieldType.int)) ∈ js_good := List.mem_filter.mpr ⟨List.mem_append_right _ (List.mem_of_getElem? (i := 904) (by decide +kernel)), by decide +kernel⟩
theorem tw_905 : Cond.methodLink RX8 84 yX8_spot ∈ js_good := List.mem_filter.mpr ⟨List.mem_append_right _ (List.mem_of_getElem? (i := 905) (by decide +kernel)), by decide +kernel⟩
theorem tw_906 : Cond.static yX8_spot ∈ js_good := List.mem_filter.mpr ⟨List.mem_append_right _ (List.mem_of_getElem? (i := 906) (by decide +kernel)), by decide +kernel⟩
theorem tw_907 : Cond.code yX8_spot cX8_spot 3 (some (FieldType.int)) ∈ js_good := List.mem_filter.mpr ⟨List.mem_append_right _ (List.mem_of_getElem? (i := 907) (by decide +kernel)), by decide +kernel⟩
theorem tw_908 : Cond.methodLink RX8 102 yX8_emptyBends ∈ js_good := List.mem_filter.mpr ⟨List.mem_append_right _ (List.mem_of_getElem? (i := 908) (by decide +kernel)), by decide +kernel⟩
theorem tw_910 : Cond.instanceMethod yX8_emptyBends ∈ js_good := List.mem_filter.mpr ⟨List.mem_append_right _ (List.mem_of_getElem? (i := 910) (by decide +kernel)), by decide +kernel⟩
theorem tw_911 : Cond.code yX8_emptyBends cX8_emptyBends 4 (some (FieldType.int)) ∈ js_good := List.mem_filter.mpr ⟨List.mem_append_right _ (List.mem_of_getElem? (i := 911) (by decide +kernel)), by decide +kernel⟩
theorem tw_912 : Cond.methodLink RX8 105 yX8_cakes ∈ js_good := List.mem_filter.mpr ⟨List.mem_append_right _ (List.mem_of_getElem? (i := 912) (by decide +kernel)), by decide +kernel⟩
theorem tw_914 : Cond.instanceMethod yX8_cakes ∈ js_good := List.mem_filter.mpr ⟨List.mem_append_right _ (List.mem_of_getElem? (i := 914) (by decide +kernel)), by decide +kernel⟩
theorem tw_915 : Cond.code yX8_cakes cX8_cakes 3 (some (FieldType.int)) ∈ js_good := List.mem_filter.mpr ⟨List.mem_append_right _ (List.mem_of_getElem? (i := 915) (by decide +kernel)), by decide +kernel⟩
theorem tw_917 : Cond.instanceMethod yX8_bend ∈ js_good := List.mem_filter.mpr ⟨List.mem_append_right _ (List.mem_of_getElem? (i := 917) (by decide +kernel)), by decide +kernel⟩
theorem tw_918 : Cond.selects RX8 yX8_bend yX8_bend ∈ js_good := List.mem_filter.mpr ⟨List.mem_append_right _ (List.mem_of_getElem? (i := 918) (by decide +kernel)), by decide +kernel⟩
theorem tw_919 : Cond.code yX8_bend cX8_bend 4 (some (FieldType.int)) ∈ js_good := List.mem_filter.mpr ⟨List.mem_append_right _ (List.mem_of_getElem? (i := 919) (by decide +kernel)), by decide +kernel⟩
theorem tw_920 : Cond.methodLink RX8 108 yX8_isBend ∈ js_good := List.mem_filter.mpr ⟨List.mem_append_right _ (List.mem_of_getElem? (i := 920) (by decide +kernel)), by decide +kernel⟩
theorem tw_921 : Cond.static yX8_isBend ∈ js_good := List.mem_filter.mpr ⟨List.mem_append_right _ (List.mem_of_getElem? (i := 921) (by decide +kernel)), by decide +kernel⟩
theorem tw_922 : Cond.code yX8_isBend cX8_isBend 1 (some (FieldType.boolean)) ∈ js_good := List.mem_filter.mpr ⟨List.mem_append_right _ (List.mem_of_getElem? (i := 922) (by decide +kernel)), by decide +kernel⟩
theorem tw_923 : Cond.constantLong RX8 49 (7) ∈ js_good := List.mem_filter.mpr ⟨List.mem_append_right _ (List.mem_of_getElem? (i := 923) (by decide +kernel)), by decide +kernel⟩
theorem tw_924 : Cond.constantLong RX8 111 (2) ∈ js_good := List.mem_filter.mpr ⟨List.mem_append_right _ (List.mem_of_getElem? (i := 924) (by decide +kernel)), by decide +kernel⟩
theorem tw_925 : Cond.methodLink RX8 81 yX8_holds ∈ js_good := List.mem_filter.mpr ⟨List.mem_append_right _ (List.mem_of_getElem? (i := 925) (by decide +kernel)), by decide +kernel⟩
theorem tw_927 : Cond.instanceMethod yX8_holds ∈ js_good := List.mem_filter.mpr ⟨List.mem_append_right _ (List.mem_of_getElem? (i := 927) (by decide +kernel)), by decide +kernel⟩
theorem tw_928 : Cond.code yX8_holds cX8_holds 3 (some (FieldType.int)) ∈ js_good := List.mem_filter.mpr ⟨List.mem_append_right _ (List.mem_of_getElem? (i := 928) (by decide +kernel)), by decide +kernel⟩
theorem tw_930 : Cond.instanceMethod yX8_layer ∈ js_good := List.mem_filter.mpr ⟨List.mem_append_right _ (List.mem_of_getElem? (i := 930) (by decide +kernel)), by decide +kernel⟩
theorem tw_931 : Cond.selects RX8 yX8_layer yX8_layer ∈ js_good := List.mem_filter.mpr ⟨List.mem_append_right _ (List.mem_of_getElem? (i := 931) (by decide +kernel)), by decide +kernel⟩
theorem tw_932 : Cond.code yX8_layer cX8_layer 5 (some (FieldType.int)) ∈ js_good := List.mem_filter.mpr ⟨List.mem_append_right _ (List.mem_of_getElem? (i := 932) (by decide +kernel)), by decide +kernel⟩
theorem tw_933 : Cond.constant RX8 113 (-1000000004) ∈ js_good := List.mem_filter.mpr ⟨List.mem_append_right _ (List.mem_of_getElem? (i := 933) (by decide +kernel)), by decide +kernel⟩
theorem tw_935 : Cond.instanceMethod yX8_turn ∈ js_good := List.mem_filter.mpr ⟨List.mem_append_right _ (List.mem_of_getElem? (i := 935) (by decide +kernel)), by decide +kernel⟩
theorem tw_936 : Cond.selects RX8 yX8_turn yX8_turn ∈ js_good := List.mem_filter.mpr ⟨List.mem_append_right _ (List.mem_of_getElem? (i := 936) (by decide +kernel)), by decide +kernel⟩
theorem tw_937 : Cond.code yX8_turn cX8_turn 3 (some (FieldType.int)) ∈ js_good := List.mem_filter.mpr ⟨List.mem_append_right _ (List.mem_of_getElem? (i := 937) (by decide +kernel)), by decide +kernel⟩
theorem tw_938 : Cond.methodLink RX8 114 yX8_becomes ∈ js_good := List.mem_filter.mpr ⟨List.mem_append_right _ (List.mem_of_getElem? (i := 938) (by decide +kernel)), by decide +kernel⟩
theorem tw_940 : Cond.instanceMethod yX8_becomes ∈ js_good := List.mem_filter.mpr ⟨List.mem_append_right _ (List.mem_of_getElem? (i := 940) (by decide +kernel)), by decide +kernel⟩
theorem tw_941 : Cond.code yX8_becomes cX8_becomes 4 (some (FieldType.int)) ∈ js_good := List.mem_filter.mpr ⟨List.mem_append_right _ (List.mem_of_getElem? (i := 941) (by decide +kernel)), by decide +kernel⟩
theorem tw_943 : Cond.instanceMethod yX8_as ∈ js_good := List.mem_filter.mpr ⟨List.mem_append_right _ (List.mem_of_getElem? (i := 943) (by decide +kernel)), by decide +kernel⟩
theorem tw_944 : Cond.selects RX8 yX8_as yX8_as ∈ js_good := List.mem_filter.mpr ⟨List.mem_append_right _ (List.mem_of_getElem? (i := 944) (by decide +kernel)), by decide +kernel⟩
theorem tw_945 : Cond.code yX8_as cX8_as 3 (some (FieldType.int)) ∈ js_good := List.mem_filter.mpr ⟨List.mem_append_right _ (List.mem_of_getElem? (i := 945) (by decide +kernel)), by decide +kernel⟩
theorem tw_946 : Cond.methodLink RX8 117 yX8_isUnder ∈ js_good := List.mem_filter.mpr ⟨List.mem_append_right _ (List.mem_of_getElem? (i := 946) (by decide +kernel)), by decide +kernel⟩
theorem tw_947 : Cond.static yX8_isUnder ∈ js_good := List.mem_filter.mpr ⟨List.mem_append_right _ (List.mem_of_getElem? (i := 947) (by decide +kernel)), by decide +kernel⟩
theorem tw_948 : Cond.code yX8_isUnder cX8_isUnder 2 (some (FieldType.boolean)) ∈ js_good := List.mem_filter.mpr ⟨List.mem_append_right _ (List.mem_of_getElem? (i := 948) (by decide +kernel)), by decide +kernel⟩
theorem tw_949 : Cond.constant RX8 121 (-1000000003) ∈ js_good := List.mem_filter.mpr ⟨List.mem_append_right _ (List.mem_of_getElem? (i := 949) (by decide +kernel)), by decide +kernel⟩
theorem tw_951 : Cond.instanceMethod yX8_damp ∈ js_good := List.mem_filter.mpr ⟨List.mem_append_right _ (List.mem_of_getElem? (i := 951) (by decide +kernel)), by decide +kernel⟩
theorem tw_952 : Cond.selects RX8 yX8_damp yX8_damp ∈ js_good := List.mem_filter.mpr ⟨List.mem_append_right _ (List.mem_of_getElem? (i := 952) (by decide +kernel)), by decide +kernel⟩
theorem tw_953 : Cond.code yX8_damp cX8_damp 2 (some (FieldType.int)) ∈ js_good := List.mem_filter.mpr ⟨List.mem_append_right _ (List.mem_of_getElem? (i := 953) (by decide +kernel)), by decide +kernel⟩
theorem tw_954 : Cond.constantLong RX8 57 (9) ∈ js_good := List.mem_filter.mpr ⟨List.mem_append_right _ (List.mem_of_getElem? (i := 954) (by decide +kernel)), by decide +kernel⟩
theorem tw_956 : Cond.instanceMethod yX8_rises ∈ js_good := List.mem_filter.mpr ⟨List.mem_append_right _ (List.mem_of_getElem? (i := 956) (by decide +kernel)), by decide +kernel⟩
theorem tw_957 : Cond.selects RX8 yX8_rises yX8_rises ∈ js_good := List.mem_filter.mpr ⟨List.mem_append_right _ (List.mem_of_getElem? (i := 957) (by decide +kernel)), by decide +kernel⟩
theorem tw_958 : Cond.code yX8_rises cX8_rises 5 (some (FieldType.int)) ∈ js_good := List.mem_filter.mpr ⟨List.mem_append_right _ (List.mem_of_getElem? (i := 958) (by decide +kernel)), by decide +kernel⟩
theorem tw_959 : Cond.methodLink RX8 122 yX8_isWord ∈ js_good := List.mem_filter.mpr ⟨List.mem_append_right _ (List.mem_of_getElem? (i := 959) (by decide +kernel)), by decide +kernel⟩
theorem tw_960 : Cond.static yX8_isWord ∈ js_good := List.mem_filter.mpr ⟨List.mem_append_right _ (List.mem_of_getElem? (i := 960) (by decide +kernel)), by decide +kernel⟩
theorem tw_961 : Cond.code yX8_isWord cX8_isWord 1 (some (FieldType.boolean)) ∈ js_good := List.mem_filter.mpr ⟨List.mem_append_right _ (List.mem_of_getElem? (i := 961) (by decide +kernel)), by decide +kernel⟩
theorem tw_962 : Cond.constantLong RX8 53 (15) ∈ js_good := List.mem_filter.mpr ⟨List.mem_append_right _ (List.mem_of_getElem? (i := 962) (by decide +kernel)), by decide +kernel⟩
theorem tw_963 : Cond.methodLink RX8 125 yX8_isVoice ∈ js_good := List.mem_filter.mpr ⟨List.mem_append_right _ (List.mem_of_getElem? (i := 963) (by decide +kernel)), by decide +kernel⟩
theorem tw_964 : Cond.static yX8_isVoice ∈ js_good := List.mem_filter.mpr ⟨List.mem_append_right _ (List.mem_of_getElem? (i := 964) (by decide +kernel)), by decide +kernel⟩
theorem tw_965 : Cond.code yX8_isVoice cX8_isVoice 1 (some (FieldType.boolean)) ∈ js_good := List.mem_filter.mpr ⟨List.mem_append_right _ (List.mem_of_getElem? (i := 965) (by decide +kernel)), by decide +kernel⟩
theorem tw_966 : Cond.methodLink RX8 128 yX8_rise ∈ js_good := List.mem_filter.mpr ⟨List.mem_append_right _ (List.mem_of_getElem? (i := 966) (by decide +kernel)), by decide +kernel⟩
theorem tw_968 : Cond.instanceMethod yX8_rise ∈ js_good := List.mem_filter.mpr ⟨List.mem_append_right _ (List.mem_of_getElem? (i := 968) (by decide +kernel)), by decide +kernel⟩
theorem tw_969 : Cond.code yX8_rise cX8_rise 7 (some (FieldType.int)) ∈ js_good := List.mem_filter.mpr ⟨List.mem_append_right _ (List.mem_of_getElem? (i := 969) (by decide +kernel)), by decide +kernel⟩
theorem tw_971 : Cond.instanceMethod yX8_say ∈ js_good := List.mem_filter.mpr ⟨List.mem_append_right _ (List.mem_of_getElem? (i := 971) (by decide +kernel)), by decide +kernel⟩
theorem tw_972 : Cond.selects RX8 yX8_say yX8_say ∈ js_good := List.mem_filter.mpr ⟨List.mem_append_right _ (List.mem_of_getElem? (i := 972) (by decide +kernel)), by decide +kernel⟩
theorem tw_973 : Cond.code yX8_say cX8_say 4 (some (FieldType.int)) ∈ js_good := List.mem_filter.mpr ⟨List.mem_append_right _ (List.mem_of_getElem? (i := 973) (by decide +kernel)), by decide +kernel⟩
theorem tw_974 : Cond.methodLink RX8 141 yX8_says ∈ js_good := List.mem_filter.mpr ⟨List.mem_append_right _ (List.mem_of_getElem? (i := 974) (by decide +kernel)), by decide +kernel⟩
theorem tw_976 : Cond.instanceMethod yX8_says ∈ js_good := List.mem_filter.mpr ⟨List.mem_append_right _ (List.mem_of_getElem? (i := 976) (by decide +kernel)), by decide +kernel⟩
theorem tw_977 : Cond.code yX8_says cX8_says 5 (some (FieldType.int)) ∈ js_good := List.mem_filter.mpr ⟨List.mem_append_right _ (List.mem_of_getElem? (i := 977) (by decide +kernel)), by decide +kernel⟩
theorem tw_978 : Cond.methodLink RX8 134 yX8_lands ∈ js_good := List.mem_filter.mpr ⟨List.mem_append_right _ (List.mem_of_getElem? (i := 978) (by decide +kernel)), by decide +kernel⟩
theorem tw_980 : Cond.instanceMethod yX8_lands ∈ js_good := List.mem_filter.mpr ⟨List.mem_append_right _ (List.mem_of_getElem? (i := 980) (by decide +kernel)), by decide +kernel⟩
theorem tw_981 : Cond.code yX8_lands cX8_lands 5 (some (FieldType.int)) ∈ js_good := List.mem_filter.mpr ⟨List.mem_append_right _ (List.mem_of_getElem? (i := 981) (by decide +kernel)), by decide +kernel⟩
theorem tw_982 : Cond.methodLink RX8 131 yX8_isFull ∈ js_good := List.mem_filter.mpr ⟨List.mem_append_right _ (List.mem_of_getElem? (i := 982) (by decide +kernel)), by decide +kernel⟩
theorem tw_984 : Cond.instanceMethod yX8_isFull ∈ js_good := List.mem_filter.mpr ⟨List.mem_append_right _ (List.mem_of_getElem? (i := 984) (by decide +kernel)), by decide +kernel⟩
theorem tw_985 : Cond.code yX8_isFull cX8_isFull 3 (some (FieldType.boolean)) ∈ js_good := List.mem_filter.mpr ⟨List.mem_append_right _ (List.mem_of_getElem? (i := 985) (by decide +kernel)), by decide +kernel⟩
theorem tw_986 : Cond.methodLink RX8 137 yX8_lies ∈ js_good := List.mem_filter.mpr ⟨List.mem_append_right _ (List.mem_of_getElem? (i := 986) (by decide +kernel)), by decide +kernel⟩
theorem tw_988 : Cond.instanceMethod yX8_lies ∈ js_good := List.mem_filter.mpr ⟨List.mem_append_right _ (List.mem_of_getElem? (i := 988) (by decide +kernel)), by decide +kernel⟩
theorem tw_989 : Cond.code yX8_lies cX8_lies 6 none ∈ js_good := List.mem_filter.mpr ⟨List.mem_append_right _ (List.mem_of_getElem? (i := 989) (by decide +kernel)), by decide +kernel⟩
theorem tw_991 : Cond.instanceMethod yX8_cake ∈ js_good := List.mem_filter.mpr ⟨List.mem_append_right _ (List.mem_of_getElem? (i := 991) (by decide +kernel)), by decide +kernel⟩
theorem tw_992 : Cond.selects RX8 yX8_cake yX8_cake ∈ js_good := List.mem_filter.mpr ⟨List.mem_append_right _ (List.mem_of_getElem? (i := 992) (by decide +kernel)), by decide +kernel⟩
theorem tw_993 : Cond.code yX8_cake cX8_cake 6 (some (FieldType.int)) ∈ js_good := List.mem_filter.mpr ⟨List.mem_append_right _ (List.mem_of_getElem? (i := 993) (by decide +kernel)), by decide +kernel⟩
theorem tw_995 : Cond.instanceMethod yX8_days ∈ js_good := List.mem_filter.mpr ⟨List.mem_append_right _ (List.mem_of_getElem? (i := 995) (by decide +kernel)), by decide +kernel⟩
theorem tw_996 : Cond.selects RX8 yX8_days yX8_days ∈ js_good := List.mem_filter.mpr ⟨List.mem_append_right _ (List.mem_of_getElem? (i := 996) (by decide +kernel)), by decide +kernel⟩
theorem tw_997 : Cond.code yX8_days cX8_days 2 (some (FieldType.int)) ∈ js_good := List.mem_filter.mpr ⟨List.mem_append_right _ (List.mem_of_getElem? (i := 997) (by decide +kernel)), by decide +kernel⟩
theorem tw_998 : Cond.constantLong RX8 147 (60) ∈ js_good := List.mem_filter.mpr ⟨List.mem_append_right _ (List.mem_of_getElem? (i := 998) (by decide +kernel)), by decide +kernel⟩
theorem tw_999 : Cond.constant RX8 149 (-1000000005) ∈ js_good := List.mem_filter.mpr ⟨List.mem_append_right _ (List.mem_of_getElem? (i := 999) (by decide +kernel)), by decide +kernel⟩
theorem tw_1000 : Cond.methodLink RX8 150 yX8_goesOn ∈ js_good := List.mem_filter.mpr ⟨List.mem_append_right _ (List.mem_of_getElem? (i := 1000) (by decide +kernel)), by decide +kernel⟩
theorem tw_1002 : Cond.instanceMethod yX8_goesOn ∈ js_good := List.mem_filter.mpr ⟨List.mem_append_right _ (List.mem_of_getElem? (i := 1002) (by decide +kernel)), by decide +kernel⟩
theorem tw_1003 : Cond.code yX8_goesOn cX8_goesOn 3 none ∈ js_good := List.mem_filter.mpr ⟨List.mem_append_right _ (List.mem_of_getElem? (i := 1003) (by decide +kernel)), by decide +kernel⟩
theorem tw_1004 : Cond.methodLink RX8 144 yX8_day ∈ js_good := List.mem_filter.mpr ⟨List.mem_append_right _ (List.mem_of_getElem? (i := 1004) (by decide +kernel)), by decide +kernel⟩
theorem tw_1006 : Cond.instanceMethod yX8_day ∈ js_good := List.mem_filter.mpr ⟨List.mem_append_right _ (List.mem_of_getElem? (i := 1006) (by decide +kernel)), by decide +kernel⟩
theorem tw_1007 : Cond.code yX8_day cX8_day 5 none ∈ js_good := List.mem_filter.mpr ⟨List.mem_append_right _ (List.mem_of_getElem? (i := 1007) (by decide +kernel)), by decide +kernel⟩
theorem tw_1008 : Cond.methodLink RX8 154 yX8_withCake ∈ js_good := List.mem_filter.mpr ⟨List.mem_append_right _ (List.mem_of_getElem? (i := 1008) (by decide +kernel)), by decide +kernel⟩
theorem tw_1010 : Cond.instanceMethod yX8_withCake ∈ js_good := List.mem_filter.mpr ⟨List.mem_append_right _ (List.mem_of_getElem? (i := 1010) (by decide +kernel)), by decide +kernel⟩
theorem tw_1011 : Cond.code yX8_withCake cX8_withCake 5 (some (FieldType.int)) ∈ js_good := List.mem_filter.mpr ⟨List.mem_append_right _ (List.mem_of_getElem? (i := 1011) (by decide +kernel)), by decide +kernel⟩
theorem tw_1013 : Cond.instanceMethod yX8_now ∈ js_good := List.mem_filter.mpr ⟨List.mem_append_right _ (List.mem_of_getElem? (i := 1013) (by decide +kernel)), by decide +kernel⟩
theorem tw_1014 : Cond.selects RX8 yX8_now yX8_now ∈ js_good := List.mem_filter.mpr ⟨List.mem_append_right _ (List.mem_of_getElem? (i := 1014) (by decide +kernel)), by decide +kernel⟩
theorem tw_1015 : Cond.code yX8_now cX8_now 2 (some (FieldType.int)) ∈ js_good := List.mem_filter.mpr ⟨List.mem_append_right _ (List.mem_of_getElem? (i := 1015) (by decide +kernel)), by decide +kernel⟩
theorem tw_1016 : Cond.methodLink RX8 157 yX8_layersAll ∈ js_good := List.mem_filter.mpr ⟨List.mem_append_right _ (List.mem_of_getElem? (i := 1016) (by decide +kernel)), by decide +kernel⟩
theorem tw_1018 : Cond.instanceMethod yX8_layersAll ∈ js_good := List.mem_filter.mpr ⟨List.mem_append_right _ (List.mem_of_getElem? (i := 1018) (by decide +kernel)), by decide +kernel⟩
theorem tw_1019 : Cond.code yX8_layersAll cX8_layersAll 3 (some (FieldType.int)) ∈ js_good := List.mem_filter.mpr ⟨List.mem_append_right _ (List.mem_of_getElem? (i := 1019) (by decide +kernel)), by decide +kernel⟩
theorem tw_1020 : Cond.methodLink RX8 161 yX8_wordsAll ∈ js_good := List.mem_filter.mpr ⟨List.mem_append_right _ (List.mem_of_getElem? (i := 1020) (by decide +kernel)), by decide +kernel⟩
theorem tw_1022 : Cond.instanceMethod yX8_wordsAll ∈ js_good := List.mem_filter.mpr ⟨List.mem_append_right _ (List.mem_of_getElem? (i := 1022) (by decide +kernel)), by decide +kernel⟩
theorem tw_1023 : Cond.code yX8_wordsAll cX8_wordsAll 3 (some (FieldType.int)) ∈ js_good := List.mem_filter.mpr ⟨List.mem_append_right _ (List.mem_of_getElem? (i := 1023) (by decide +kernel)), by decide +kernel⟩
theorem tw_1024 : Cond.methodLink RX8 164 yX8_cakeAll ∈ js_good := List.mem_filter.mpr ⟨List.mem_append_right _ (List.mem_of_getElem? (i := 1024) (by decide +kernel)), by decide +kernel⟩
theorem tw_1026 : Cond.instanceMethod yX8_cakeAll ∈ js_good := List.mem_filter.mpr ⟨List.mem_append_right _ (List.mem_of_getElem? (i := 1026) (by decide +kernel)), by decide +kernel⟩
theorem tw_1027 : Cond.code yX8_cakeAll cX8_cakeAll 3 (some (FieldType.int)) ∈ js_good := List.mem_filter.mpr ⟨List.mem_append_right _ (List.mem_of_getElem? (i := 1027) (by decide +kernel)), by decide +kernel⟩
theorem tw_1029 : Cond.instanceMethod yX8_sweep ∈ js_good := List.mem_filter.mpr ⟨List.mem_append_right _ (List.mem_of_getElem? (i := 1029) (by decide +kernel)), by decide +kernel⟩
theorem tw_1030 : Cond.selects RX8 yX8_sweep yX8_sweep ∈ js_good := List.mem_filter.mpr ⟨List.mem_append_right _ (List.mem_of_getElem? (i := 1030) (by decide +kernel)), by decide +kernel⟩
theorem tw_1031 : Cond.code yX8_sweep cX8_sweep 7 (some (FieldType.int)) ∈ js_good := List.mem_filter.mpr ⟨List.mem_append_right _ (List.mem_of_getElem? (i := 1031) (by decide +kernel)), by decide +kernel⟩
theorem tw_1032 : Cond.methodLink RX8 181 yX8_isBrush ∈ js_good := List.mem_filter.mpr ⟨List.mem_append_right _ (List.mem_of_getElem? (i := 1032) (by decide +kernel)), by decide +kernel⟩
theorem tw_1034 : Cond.instanceMethod yX8_isBrush ∈ js_good := List.mem_filter.mpr ⟨List.mem_append_right _ (List.mem_of_getElem? (i := 1034) (by decide +kernel)), by decide +kernel⟩
theorem tw_1035 : Cond.code yX8_isBrush cX8_isBrush 4 (some (FieldType.boolean)) ∈ js_good := List.mem_filter.mpr ⟨List.mem_append_right _ (List.mem_of_getElem? (i := 1035) (by decide +kernel)), by decide +kernel⟩
theorem tw_1036 : Cond.methodLink RX8 178 yX8_isStrength ∈ js_good := List.mem_filter.mpr ⟨List.mem_append_right _ (List.mem_of_getElem? (i := 1036) (by decide +kernel)), by decide +kernel⟩
theorem tw_1037 : Cond.static yX8_isStrength ∈ js_good := List.mem_filter.mpr ⟨List.mem_append_right _ (List.mem_of_getElem? (i := 1037) (by decide +kernel)), by decide +kernel⟩
theorem tw_1038 : Cond.code yX8_isStrength cX8_isStrength 1 (some (FieldType.boolean)) ∈ js_good := List.mem_filter.mpr ⟨List.mem_append_right _ (List.mem_of_getElem? (i := 1038) (by decide +kernel)), by decide +kernel⟩
theorem tw_1039 : Cond.methodLink RX8 171 yX8_loose ∈ js_good := List.mem_filter.mpr ⟨List.mem_append_right _ (List.mem_of_getElem? (i := 1039) (by decide +kernel)), by decide +kernel⟩
theorem tw_1041 : Cond.instanceMethod yX8_loose ∈ js_good := List.mem_filter.mpr ⟨List.mem_append_right _ (List.mem_of_getElem? (i := 1041) (by decide +kernel)), by decide +kernel⟩
theorem tw_1042 : Cond.code yX8_loose cX8_loose 5 (some (FieldType.int)) ∈ js_good := List.mem_filter.mpr ⟨List.mem_append_right _ (List.mem_of_getElem? (i := 1042) (by decide +kernel)), by decide +kernel⟩
theorem tw_1044 : Cond.instanceMethod yX8_brought ∈ js_good := List.mem_filter.mpr ⟨List.mem_append_right _ (List.mem_of_getElem? (i := 1044) (by decide +kernel)), by decide +kernel⟩
theorem tw_1045 : Cond.selects RX8 yX8_brought yX8_brought ∈ js_good := List.mem_filter.mpr ⟨List.mem_append_right _ (List.mem_of_getElem? (i := 1045) (by decide +kernel)), by decide +kernel⟩
theorem tw_1046 : Cond.code yX8_brought cX8_brought 4 (some (FieldType.int)) ∈ js_good := List.mem_filter.mpr ⟨List.mem_append_right _ (List.mem_of_getElem? (i := 1046) (by decide +kernel)), by decide +kernel⟩
theorem tw_1047 : Cond.methodLink RX8 185 yX8_broughtBy ∈ js_good := List.mem_filter.mpr ⟨List.mem_append_right _ (List.mem_of_getElem? (i := 1047) (by decide +kernel)), by decide +kernel⟩
theorem tw_1049 : Cond.instanceMethod yX8_broughtBy ∈ js_good := List.mem_filter.mpr ⟨List.mem_append_right _ (List.mem_of_getElem? (i := 1049) (by decide +kernel)), by decide +kernel⟩
theorem tw_1050 : Cond.code yX8_broughtBy cX8_broughtBy 6 (some (FieldType.int)) ∈ js_good := List.mem_filter.mpr ⟨List.mem_append_right _ (List.mem_of_getElem? (i := 1050) (by decide +kernel)), by decide +kernel⟩
theorem tw_1051 : Cond.methodLink RX8 174 yX8_brings ∈ js_good := List.mem_filter.mpr ⟨List.mem_append_right _ (List.mem_of_getElem? (i := 1051) (by decide +kernel)), by decide +kernel⟩
theorem tw_1053 : Cond.instanceMethod yX8_brings ∈ js_good := List.mem_filter.mpr ⟨List.mem_append_right _ (List.mem_of_getElem? (i := 1053) (by decide +kernel)), by decide +kernel⟩
theorem tw_1054 : Cond.code yX8_brings cX8_brings 7 none ∈ js_good := List.mem_filter.mpr ⟨List.mem_append_right _ (List.mem_of_getElem? (i := 1054) (by decide +kernel)), by decide +kernel⟩
theorem tw_1056 : Cond.instanceMethod yX8_order ∈ js_good := List.mem_filter.mpr ⟨List.mem_append_right _ (List.mem_of_getElem? (i := 1056) (by decide +kernel)), by decide +kernel⟩
theorem tw_1057 : Cond.selects RX8 yX8_order yX8_order ∈ js_good := List.mem_filter.mpr ⟨List.mem_append_right _ (List.mem_of_getElem? (i := 1057) (by decide +kernel)), by decide +kernel⟩
theorem tw_1058 : Cond.code yX8_order cX8_order 5 (some (FieldType.int)) ∈ js_good := List.mem_filter.mpr ⟨List.mem_append_right _ (List.mem_of_getElem? (i := 1058) (by decide +kernel)), by decide +kernel⟩
theorem tw_1060 : Cond.instanceMethod yX8_on ∈ js_good := List.mem_filter.mpr ⟨List.mem_append_right _ (List.mem_of_getElem? (i := 1060) (by decide +kernel)), by decide +kernel⟩
theorem tw_1061 : Cond.selects RX8 yX8_on yX8_on ∈ js_good := List.mem_filter.mpr ⟨List.mem_append_right _ (List.mem_of_getElem? (i := 1061) (by decide +kernel)), by decide +kernel⟩
theorem tw_1062 : Cond.code yX8_on cX8_on 5 (some (FieldType.int)) ∈ js_good := List.mem_filter.mpr ⟨List.mem_append_right _ (List.mem_of_getElem? (i := 1062) (by decide +kernel)), by decide +kernel⟩
theorem tw_1063 : Cond.methodLink RX8 188 yX8_laysAside ∈ js_good := List.mem_filter.mpr ⟨List.mem_append_right _ (List.mem_of_getElem? (i := 1063) (by decide +kernel)), by decide +kernel⟩
theorem tw_1065 : Cond.instanceMethod yX8_laysAside ∈ js_good := List.mem_filter.mpr ⟨List.mem_append_right _ (List.mem_of_getElem? (i := 1065) (by decide +kernel)), by decide +kernel⟩
theorem tw_1066 : Cond.code yX8_laysAside cX8_laysAside 2 none ∈ js_good := List.mem_filter.mpr ⟨List.mem_append_right _ (List.mem_of_getElem? (i := 1066) (by decide +kernel)), by decide +kernel⟩
theorem tw_1067 : Cond.methodLink RX8 191 yX8_takesBack ∈ js_good := List.mem_filter.mpr ⟨List.mem_append_right _ (List.mem_of_getElem? (i := 1067) (by decide +kernel)), by decide +kernel⟩
theorem tw_1069 : Cond.instanceMethod yX8_takesBack ∈ js_good := List.mem_filter.mpr ⟨List.mem_append_right _ (List.mem_of_getElem? (i := 1069) (by decide +kernel)), by decide +kernel⟩
theorem tw_1070 : Cond.code yX8_takesBack cX8_takesBack 3 (some (FieldType.int)) ∈ js_good := List.mem_filter.mpr ⟨List.mem_append_right _ (List.mem_of_getElem? (i := 1070) (by decide +kernel)), by decide +kernel⟩
theorem tw_1072 : Cond.instanceMethod yX8_reach ∈ js_good := List.mem_filter.mpr ⟨List.mem_append_right _ (List.mem_of_getElem? (i := 1072) (by decide +kernel)), by decide +kernel⟩
theorem tw_1073 : Cond.selects RX8 yX8_reach yX8_reach ∈ js_good := List.mem_filter.mpr ⟨List.mem_append_right _ (List.mem_of_getElem? (i := 1073) (by decide +kernel)), by decide +kernel⟩
theorem tw_1074 : Cond.code yX8_reach cX8_reach 5 (some (FieldType.int)) ∈ js_good := List.mem_filter.mpr ⟨List.mem_append_right _ (List.mem_of_getElem? (i := 1074) (by decide +kernel)), by decide +kernel⟩
theorem tw_1075 : Cond.methodLink RX8 194 yX8_areWords ∈ js_good := List.mem_filter.mpr ⟨List.mem_append_right _ (List.mem_of_getElem? (i := 1075) (by decide +kernel)), by decide +kernel⟩
theorem tw_1076 : Cond.static yX8_areWords ∈ js_good := List.mem_filter.mpr ⟨List.mem_append_right _ (List.mem_of_getElem? (i := 1076) (by decide +kernel)), by decide +kernel⟩
theorem tw_1077 : Cond.code yX8_areWords cX8_areWords 1 (some (FieldType.boolean)) ∈ js_good := List.mem_filter.mpr ⟨List.mem_append_right _ (List.mem_of_getElem? (i := 1077) (by decide +kernel)), by decide +kernel⟩
theorem tw_1078 : Cond.constantLong RX8 55 (65535) ∈ js_good := List.mem_filter.mpr ⟨List.mem_append_right _ (List.mem_of_getElem? (i := 1078) (by decide +kernel)), by decide +kernel⟩
theorem tw_1080 : Cond.instanceMethod yX8_strength ∈ js_good := List.mem_filter.mpr ⟨List.mem_append_right _ (List.mem_of_getElem? (i := 1080) (by decide +kernel)), by decide +kernel⟩
theorem tw_1081 : Cond.selects RX8 yX8_strength yX8_strength ∈ js_good := List.mem_filter.mpr ⟨List.mem_append_right _ (List.mem_of_getElem? (i := 1081) (by decide +kernel)), by decide +kernel⟩
theorem tw_1082 : Cond.code yX8_strength cX8_strength 5 (some (FieldType.int)) ∈ js_good := List.mem_filter.mpr ⟨List.mem_append_right _ (List.mem_of_getElem? (i := 1082) (by decide +kernel)), by decide +kernel⟩
theorem tw_1084 : Cond.instanceMethod yX8_secret ∈ js_good := List.mem_filter.mpr ⟨List.mem_append_right _ (List.mem_of_getElem? (i := 1084) (by decide +kernel)), by decide +kernel⟩
theorem tw_1085 : Cond.selects RX8 yX8_secret yX8_secret ∈ js_good := List.mem_filter.mpr ⟨List.mem_append_right _ (List.mem_of_getElem? (i := 1085) (by decide +kernel)), by decide +kernel⟩
theorem tw_1086 : Cond.code yX8_secret cX8_secret 6 (some (FieldType.int)) ∈ js_good := List.mem_filter.mpr ⟨List.mem_append_right _ (List.mem_of_getElem? (i := 1086) (by decide +kernel)), by decide +kernel⟩
theorem tw_1088 : Cond.instanceMethod yX8_fewest ∈ js_good := List.mem_filter.mpr ⟨List.mem_append_right _ (List.mem_of_getElem? (i := 1088) (by decide +kernel)), by decide +kernel⟩
theorem tw_1089 : Cond.selects RX8 yX8_fewest yX8_fewest ∈ js_good := List.mem_filter.mpr ⟨List.mem_append_right _ (List.mem_of_getElem? (i := 1089) (by decide +kernel)), by decide +kernel⟩
theorem tw_1090 : Cond.code yX8_fewest cX8_fewest 7 (some (FieldType.int)) ∈ js_good := List.mem_filter.mpr ⟨List.mem_append_right _ (List.mem_of_getElem? (i := 1090) (by decide +kernel)), by decide +kernel⟩
theorem tw_1091 : Cond.constant RX8 197 (65535) ∈ js_good := List.mem_filter.mpr ⟨List.mem_append_right _ (List.mem_of_getElem? (i := 1091) (by decide +kernel)), by decide +kernel⟩
theorem tw_1092 : Cond.methodLink RX8 198 yX8_ones ∈ js_good := List.mem_filter.mpr ⟨List.mem_append_right _ (List.mem_of_getElem? (i := 1092) (by decide +kernel)), by decide +kernel⟩
theorem tw_1093 : Cond.static yX8_ones ∈ js_good := List.mem_filter.mpr ⟨List.mem_append_right _ (List.mem_of_getElem? (i := 1093) (by decide +kernel)), by decide +kernel⟩
theorem tw_1094 : Cond.code yX8_ones cX8_ones 3 (some (FieldType.int)) ∈ js_good := List.mem_filter.mpr ⟨List.mem_append_right _ (List.mem_of_getElem? (i := 1094) (by decide +kernel)), by decide +kernel⟩
theorem tw_1096 : Cond.instanceMethod yX8_where ∈ js_good := List.mem_filter.mpr ⟨List.mem_append_right _ (List.mem_of_getElem? (i := 1096) (by decide +kernel)), by decide +kernel⟩
theorem tw_1097 : Cond.selects RX8 yX8_where yX8_where ∈ js_good := List.mem_filter.mpr ⟨List.mem_append_right _ (List.mem_of_getElem? (i := 1097) (by decide +kernel)), by decide +kernel⟩
theorem tw_1098 : Cond.code yX8_where cX8_where 4 (some (FieldType.int)) ∈ js_good := List.mem_filter.mpr ⟨List.mem_append_right _ (List.mem_of_getElem? (i := 1098) (by decide +kernel)), by decide +kernel⟩
theorem tw_1100 : Cond.instanceMethod yX8_lost ∈ js_good := List.mem_filter.mpr ⟨List.mem_append_right _ (List.mem_of_getElem? (i := 1100) (by decide +kernel)), by decide +kernel⟩
theorem tw_1101 : Cond.selects RX8 yX8_lost yX8_lost ∈ js_good := List.mem_filter.mpr ⟨List.mem_append_right _ (List.mem_of_getElem? (i := 1101) (by decide +kernel)), by decide +kernel⟩
theorem tw_1102 : Cond.code yX8_lost cX8_lost 6 (some (FieldType.int)) ∈ js_good := List.mem_filter.mpr ⟨List.mem_append_right _ (List.mem_of_getElem? (i := 1102) (by decide +kernel)), by decide +kernel⟩
theorem tw_1104 : Cond.instanceMethod yX8_covers ∈ js_good := List.mem_filter.mpr ⟨List.mem_append_right _ (List.mem_of_getElem? (i := 1104) (by decide +kernel)), by decide +kernel⟩
theorem tw_1105 : Cond.selects RX8 yX8_covers yX8_covers ∈ js_good := List.mem_filter.mpr ⟨List.mem_append_right _ (List.mem_of_getElem? (i := 1105) (by decide +kernel)), by decide +kernel⟩
theorem tw_1106 : Cond.code yX8_covers cX8_covers 6 (some (FieldType.int)) ∈ js_good := List.mem_filter.mpr ⟨List.mem_append_right _ (List.mem_of_getElem? (i := 1106) (by decide +kernel)), by decide +kernel⟩
theorem tw_1108 : Cond.instanceMethod yX8_kind ∈ js_good := List.mem_filter.mpr ⟨List.mem_append_right _ (List.mem_of_getElem? (i := 1108) (by decide +kernel)), by decide +kernel⟩
theorem tw_1109 : Cond.selects RX8 yX8_kind yX8_kind ∈ js_good := List.mem_filter.mpr ⟨List.mem_append_right _ (List.mem_of_getElem? (i := 1109) (by decide +kernel)), by decide +kernel⟩
theorem tw_1110 : Cond.code yX8_kind cX8_kind 9 (some (FieldType.int)) ∈ js_good := List.mem_filter.mpr ⟨List.mem_append_right _ (List.mem_of_getElem? (i := 1110) (by decide +kernel)), by decide +kernel⟩
theorem tw_1111 : Cond.methodLink RX8 201 yX8_saysAll ∈ js_good := List.mem_filter.mpr ⟨List.mem_append_right _ (List.mem_of_getElem? (i := 1111) (by decide +kernel)), by decide +kernel⟩
theorem tw_1113 : Cond.instanceMethod yX8_saysAll ∈ js_good := List.mem_filter.mpr ⟨List.mem_append_right _ (List.mem_of_getElem? (i := 1113) (by decide +kernel)), by decide +kernel⟩
theorem tw_1114 : Cond.code yX8_saysAll cX8_saysAll 6 (some (FieldType.int)) ∈ js_good := List.mem_filter.mpr ⟨List.mem_append_right _ (List.mem_of_getElem? (i := 1114) (by decide +kernel)), by decide +kernel⟩
theorem tw_1116 : Cond.instanceMethod yX8_best ∈ js_good := List.mem_filter.mpr ⟨List.mem_append_right _ (List.mem_of_getElem? (i := 1116) (by decide +kernel)), by decide +kernel⟩
theorem tw_1117 : Cond.selects RX8 yX8_best yX8_best ∈ js_good := List.mem_filter.mpr ⟨List.mem_append_right _ (List.mem_of_getElem? (i := 1117) (by decide +kernel)), by decide +kernel⟩
theorem tw_1118 : Cond.code yX8_best cX8_best 7 (some (FieldType.int)) ∈ js_good := List.mem_filter.mpr ⟨List.mem_append_right _ (List.mem_of_getElem? (i := 1118) (by decide +kernel)), by decide +kernel⟩
theorem tw_1120 : Cond.instanceMethod yX8_richest ∈ js_good := List.mem_filter.mpr ⟨List.mem_append_right _ (List.mem_of_getElem? (i := 1120) (by decide +kernel)), by decide +kernel⟩
theorem tw_1121 : Cond.selects RX8 yX8_richest yX8_richest ∈ js_good := List.mem_filter.mpr ⟨List.mem_append_right _ (List.mem_of_getElem? (i := 1121) (by decide +kernel)), by decide +kernel⟩
theorem tw_1122 : Cond.code yX8_richest cX8_richest 6 (some (FieldType.int)) ∈ js_good := List.mem_filter.mpr ⟨List.mem_append_right _ (List.mem_of_getElem? (i := 1122) (by decide +kernel)), by decide +kernel⟩
theorem tw_1124 : Cond.instanceMethod yX8_feed ∈ js_good := List.mem_filter.mpr ⟨List.mem_append_right _ (List.mem_of_getElem? (i := 1124) (by decide +kernel)), by decide +kernel⟩
theorem tw_1125 : Cond.selects RX8 yX8_feed yX8_feed ∈ js_good := List.mem_filter.mpr ⟨List.mem_append_right _ (List.mem_of_getElem? (i := 1125) (by decide +kernel)), by decide +kernel⟩
theorem tw_1126 : Cond.code yX8_feed cX8_feed 4 (some (FieldType.int)) ∈ js_good := List.mem_filter.mpr ⟨List.mem_append_right _ (List.mem_of_getElem? (i := 1126) (by decide +kernel)), by decide +kernel⟩
theorem tw_1128 : Cond.instanceMethod yX8_wipe ∈ js_good := List.mem_filter.mpr ⟨List.mem_append_right _ (List.mem_of_getElem? (i := 1128) (by decide +kernel)), by decide +kernel⟩
theorem tw_1129 : Cond.selects RX8 yX8_wipe yX8_wipe ∈ js_good := List.mem_filter.mpr ⟨List.mem_append_right _ (List.mem_of_getElem? (i := 1129) (by decide +kernel)), by decide +kernel⟩
theorem tw_1130 : Cond.code yX8_wipe cX8_wipe 2 (some (FieldType.int)) ∈ js_good := List.mem_filter.mpr ⟨List.mem_append_right _ (List.mem_of_getElem? (i := 1130) (by decide +kernel)), by decide +kernel⟩
theorem tw_1132 : Cond.instanceMethod yX8_house ∈ js_good := List.mem_filter.mpr ⟨List.mem_append_right _ (List.mem_of_getElem? (i := 1132) (by decide +kernel)), by decide +kernel⟩
theorem tw_1133 : Cond.selects RX8 yX8_house yX8_house ∈ js_good := List.mem_filter.mpr ⟨List.mem_append_right _ (List.mem_of_getElem? (i := 1133) (by decide +kernel)), by decide +kernel⟩
theorem tw_1134 : Cond.code yX8_house cX8_house 2 (some (FieldType.int)) ∈ js_good := List.mem_filter.mpr ⟨List.mem_append_right _ (List.mem_of_getElem? (i := 1134) (by decide +kernel)), by decide +kernel⟩
theorem tw_1135 : Cond.methodLink RX8 294 yX8_saves ∈ js_good := List.mem_filter.mpr ⟨List.mem_append_right _ (List.mem_of_getElem? (i := 1135) (by decide +kernel)), by decide +kernel⟩
theorem tw_1137 : Cond.instanceMethod yX8_saves ∈ js_good := List.mem_filter.mpr ⟨List.mem_append_right _ (List.mem_of_getElem? (i := 1137) (by decide +kernel)), by decide +kernel⟩
theorem tw_1138 : Cond.code yX8_saves cX8_saves 2 none ∈ js_good := List.mem_filter.mpr ⟨List.mem_append_right _ (List.mem_of_getElem? (i := 1138) (by decide +kernel)), by decide +kernel⟩
theorem tw_1139 : Cond.methodLink RX8 234 yX8_token ∈ js_good := List.mem_filter.mpr ⟨List.mem_append_right _ (List.mem_of_getElem? (i := 1139) (by decide +kernel)), by decide +kernel⟩
theorem tw_1141 : Cond.instanceMethod yX8_token ∈ js_good := List.mem_filter.mpr ⟨List.mem_append_right _ (List.mem_of_getElem? (i := 1141) (by decide +kernel)), by decide +kernel⟩
theorem tw_1142 : Cond.code yX8_token cX8_token 3 none ∈ js_good := List.mem_filter.mpr ⟨List.mem_append_right _ (List.mem_of_getElem? (i := 1142) (by decide +kernel)), by decide +kernel⟩
theorem tw_1143 : Cond.methodLink RX8 221 yX8_byteAt ∈ js_good := List.mem_filter.mpr ⟨List.mem_append_right _ (List.mem_of_getElem? (i := 1143) (by decide +kernel)), by decide +kernel⟩
theorem tw_1145 : Cond.instanceMethod yX8_byteAt ∈ js_good := List.mem_filter.mpr ⟨List.mem_append_right _ (List.mem_of_getElem? (i := 1145) (by decide +kernel)), by decide +kernel⟩
theorem tw_1146 : Cond.code yX8_byteAt cX8_byteAt 2 (some (FieldType.int)) ∈ js_good := List.mem_filter.mpr ⟨List.mem_append_right _ (List.mem_of_getElem? (i := 1146) (by decide +kernel)), by decide +kernel⟩
theorem tw_1147 : Cond.methodLink RX8 224 yX8_isLetter ∈ js_good := List.mem_filter.mpr ⟨List.mem_append_right _ (List.mem_of_getElem? (i := 1147) (by decide +kernel)), by decide +kernel⟩
theorem tw_1148 : Cond.static yX8_isLetter ∈ js_good := List.mem_filter.mpr ⟨List.mem_append_right _ (List.mem_of_getElem? (i := 1148) (by decide +kernel)), by decide +kernel⟩
theorem tw_1149 : Cond.code yX8_isLetter cX8_isLetter 1 (some (FieldType.boolean)) ∈ js_good := List.mem_filter.mpr ⟨List.mem_append_right _ (List.mem_of_getElem? (i := 1149) (by decide +kernel)), by decide +kernel⟩
theorem tw_1150 : Cond.constantLong RX8 207 (97) ∈ js_good := List.mem_filter.mpr ⟨List.mem_append_right _ (List.mem_of_getElem? (i := 1150) (by decide +kernel)), by decide +kernel⟩
theorem tw_1151 : Cond.constantLong RX8 209 (122) ∈ js_good := List.mem_filter.mpr ⟨List.mem_append_right _ (List.mem_of_getElem? (i := 1151) (by decide +kernel)), by decide +kernel⟩
theorem tw_1152 : Cond.methodLink RX8 227 yX8_isDigit ∈ js_good := List.mem_filter.mpr ⟨List.mem_append_right _ (List.mem_of_getElem? (i := 1152) (by decide +kernel)), by decide +kernel⟩
theorem tw_1153 : Cond.static yX8_isDigit ∈ js_good := List.mem_filter.mpr ⟨List.mem_append_right _ (List.mem_of_getElem? (i := 1153) (by decide +kernel)), by decide +kernel⟩
theorem tw_1154 : Cond.code yX8_isDigit cX8_isDigit 1 (some (FieldType.boolean)) ∈ js_good := List.mem_filter.mpr ⟨List.mem_append_right _ (List.mem_of_getElem? (i := 1154) (by decide +kernel)), by decide +kernel⟩
theorem tw_1155 : Cond.constantLong RX8 211 (48) ∈ js_good := List.mem_filter.mpr ⟨List.mem_append_right _ (List.mem_of_getElem? (i := 1155) (by decide +kernel)), by decide +kernel⟩
theorem tw_1156 : Cond.constantLong RX8 213 (57) ∈ js_good := List.mem_filter.mpr ⟨List.mem_append_right _ (List.mem_of_getElem? (i := 1156) (by decide +kernel)), by decide +kernel⟩
theorem tw_1157 : Cond.methodLink RX8 297 yX8_item ∈ js_good := List.mem_filter.mpr ⟨List.mem_append_right _ (List.mem_of_getElem? (i := 1157) (by decide +kernel)), by decide +kernel⟩
theorem tw_1159 : Cond.instanceMethod yX8_item ∈ js_good := List.mem_filter.mpr ⟨List.mem_append_right _ (List.mem_of_getElem? (i := 1159) (by decide +kernel)), by decide +kernel⟩
theorem tw_1160 : Cond.code yX8_item cX8_item 4 none ∈ js_good := List.mem_filter.mpr ⟨List.mem_append_right _ (List.mem_of_getElem? (i := 1160) (by decide +kernel)), by decide +kernel⟩
theorem tw_1161 : Cond.methodLink RX8 276 yX8_kindHere ∈ js_good := List.mem_filter.mpr ⟨List.mem_append_right _ (List.mem_of_getElem? (i := 1161) (by decide +kernel)), by decide +kernel⟩
theorem tw_1163 : Cond.instanceMethod yX8_kindHere ∈ js_good := List.mem_filter.mpr ⟨List.mem_append_right _ (List.mem_of_getElem? (i := 1163) (by decide +kernel)), by decide +kernel⟩
theorem tw_1164 : Cond.code yX8_kindHere cX8_kindHere 3 (some (FieldType.int)) ∈ js_good := List.mem_filter.mpr ⟨List.mem_append_right _ (List.mem_of_getElem? (i := 1164) (by decide +kernel)), by decide +kernel⟩
theorem tw_1165 : Cond.methodLink RX8 248 yX8_word ∈ js_good := List.mem_filter.mpr ⟨List.mem_append_right _ (List.mem_of_getElem? (i := 1165) (by decide +kernel)), by decide +kernel⟩
theorem tw_1167 : Cond.instanceMethod yX8_word ∈ js_good := List.mem_filter.mpr ⟨List.mem_append_right _ (List.mem_of_getElem? (i := 1167) (by decide +kernel)), by decide +kernel⟩
theorem tw_1168 : Cond.code yX8_word cX8_word 4 (some (FieldType.long)) ∈ js_good := List.mem_filter.mpr ⟨List.mem_append_right _ (List.mem_of_getElem? (i := 1168) (by decide +kernel)), by decide +kernel⟩
theorem tw_1169 : Cond.constantLong RX8 237 (36028797018963967) ∈ js_good := List.mem_filter.mpr ⟨List.mem_append_right _ (List.mem_of_getElem? (i := 1169) (by decide +kernel)), by decide +kernel⟩
theorem tw_1170 : Cond.constantLong RX8 239 (32) ∈ js_good := List.mem_filter.mpr ⟨List.mem_append_right _ (List.mem_of_getElem? (i := 1170) (by decide +kernel)), by decide +kernel⟩
theorem tw_1171 : Cond.constantLong RX8 252 (209573) ∈ js_good := List.mem_filter.mpr ⟨List.mem_append_right _ (List.mem_of_getElem? (i := 1171) (by decide +kernel)), by decide +kernel⟩
theorem tw_1172 : Cond.constantLong RX8 254 (3841436836) ∈ js_good := List.mem_filter.mpr ⟨List.mem_append_right _ (List.mem_of_getElem? (i := 1172) (by decide +kernel)), by decide +kernel⟩
theorem tw_1173 : Cond.constantLong RX8 256 (763013) ∈ js_good := List.mem_filter.mpr ⟨List.mem_append_right _ (List.mem_of_getElem? (i := 1173) (by decide +kernel)), by decide +kernel⟩
theorem tw_1174 : Cond.constantLong RX8 258 (631476) ∈ js_good := List.mem_filter.mpr ⟨List.mem_append_right _ (List.mem_of_getElem? (i := 1174) (by decide +kernel)), by decide +kernel⟩
theorem tw_1175 : Cond.constantLong RX8 260 (592614867) ∈ js_good := List.mem_filter.mpr ⟨List.mem_append_right _ (List.mem_of_getElem? (i := 1175) (by decide +kernel)), by decide +kernel⟩
theorem tw_1176 : Cond.constantLong RX8 262 (10774482999) ∈ js_good := List.mem_filter.mpr ⟨List.mem_append_right _ (List.mem_of_getElem? (i := 1176) (by decide +kernel)), by decide +kernel⟩
theorem tw_1177 : Cond.methodLink RX8 279 yX8_flueItem ∈ js_good := List.mem_filter.mpr ⟨List.mem_append_right _ (List.mem_of_getElem? (i := 1177) (by decide +kernel)), by decide +kernel⟩
theorem tw_1179 : Cond.instanceMethod yX8_flueItem ∈ js_good := List.mem_filter.mpr ⟨List.mem_append_right _ (List.mem_of_getElem? (i := 1179) (by decide +kernel)), by decide +kernel⟩
theorem tw_1180 : Cond.code yX8_flueItem cX8_flueItem 3 none ∈ js_good := List.mem_filter.mpr ⟨List.mem_append_right _ (List.mem_of_getElem? (i := 1180) (by decide +kernel)), by decide +kernel⟩
theorem tw_1181 : Cond.methodLink RX8 244 yX8_must ∈ js_good := List.mem_filter.mpr ⟨List.mem_append_right _ (List.mem_of_getElem? (i := 1181) (by decide +kernel)), by decide +kernel⟩
theorem tw_1183 : Cond.instanceMethod yX8_must ∈ js_good := List.mem_filter.mpr ⟨List.mem_append_right _ (List.mem_of_getElem? (i := 1183) (by decide +kernel)), by decide +kernel⟩
theorem tw_1184 : Cond.code yX8_must cX8_must 2 none ∈ js_good := List.mem_filter.mpr ⟨List.mem_append_right _ (List.mem_of_getElem? (i := 1184) (by decide +kernel)), by decide +kernel⟩
theorem tw_1185 : Cond.constantLong RX8 282 (19513) ∈ js_good := List.mem_filter.mpr ⟨List.mem_append_right _ (List.mem_of_getElem? (i := 1185) (by decide +kernel)), by decide +kernel⟩
theorem tw_1186 : Cond.methodLink RX8 284 yX8_sayItem ∈ js_good := List.mem_filter.mpr ⟨List.mem_append_right _ (List.mem_of_getElem? (i := 1186) (by decide +kernel)), by decide +kernel⟩
theorem tw_1188 : Cond.instanceMethod yX8_sayItem ∈ js_good := List.mem_filter.mpr ⟨List.mem_append_right _ (List.mem_of_getElem? (i := 1188) (by decide +kernel)), by decide +kernel⟩
theorem tw_1189 : Cond.code yX8_sayItem cX8_sayItem 5 none ∈ js_good := List.mem_filter.mpr ⟨List.mem_append_right _ (List.mem_of_getElem? (i := 1189) (by decide +kernel)), by decide +kernel⟩
theorem tw_1190 : Cond.methodLink RX8 264 yX8_number ∈ js_good := List.mem_filter.mpr ⟨List.mem_append_right _ (List.mem_of_getElem? (i := 1190) (by decide +kernel)), by decide +kernel⟩
theorem tw_1192 : Cond.instanceMethod yX8_number ∈ js_good := List.mem_filter.mpr ⟨List.mem_append_right _ (List.mem_of_getElem? (i := 1192) (by decide +kernel)), by decide +kernel⟩
theorem tw_1193 : Cond.code yX8_number cX8_number 6 none ∈ js_good := List.mem_filter.mpr ⟨List.mem_append_right _ (List.mem_of_getElem? (i := 1193) (by decide +kernel)), by decide +kernel⟩
theorem tw_1194 : Cond.constantLong RX8 268 (23569509) ∈ js_good := List.mem_filter.mpr ⟨List.mem_append_right _ (List.mem_of_getElem? (i := 1194) (by decide +kernel)), by decide +kernel⟩
theorem tw_1195 : Cond.methodLink RX8 270 yX8_perhaps ∈ js_good := List.mem_filter.mpr ⟨List.mem_append_right _ (List.mem_of_getElem? (i := 1195) (by decide +kernel)), by decide +kernel⟩
theorem tw_1197 : Cond.instanceMethod yX8_perhaps ∈ js_good := List.mem_filter.mpr ⟨List.mem_append_right _ (List.mem_of_getElem? (i := 1197) (by decide +kernel)), by decide +kernel⟩
theorem tw_1198 : Cond.code yX8_perhaps cX8_perhaps 4 (some (FieldType.int)) ∈ js_good := List.mem_filter.mpr ⟨List.mem_append_right _ (List.mem_of_getElem? (i := 1198) (by decide +kernel)), by decide +kernel⟩
theorem tw_1199 : Cond.constantLong RX8 287 (12641458) ∈ js_good := List.mem_filter.mpr ⟨List.mem_append_right _ (List.mem_of_getElem? (i := 1199) (by decide +kernel)), by decide +kernel⟩
theorem tw_1200 : Cond.methodLink RX8 289 yX8_layerItem ∈ js_good := List.mem_filter.mpr ⟨List.mem_append_right _ (List.mem_of_getElem? (i := 1200) (by decide +kernel)), by decide +kernel⟩
theorem tw_1202 : Cond.instanceMethod yX8_layerItem ∈ js_good := List.mem_filter.mpr ⟨List.mem_append_right _ (List.mem_of_getElem? (i := 1202) (by decide +kernel)), by decide +kernel⟩
theorem tw_1203 : Cond.code yX8_layerItem cX8_layerItem 5 none ∈ js_good := List.mem_filter.mpr ⟨List.mem_append_right _ (List.mem_of_getElem? (i := 1203) (by decide +kernel)), by decide +kernel⟩
theorem tw_1204 : Cond.constantLong RX8 274 (99685) ∈ js_good := List.mem_filter.mpr ⟨List.mem_append_right _ (List.mem_of_getElem? (i := 1204) (by decide +kernel)), by decide +kernel⟩
theorem tw_1205 : Cond.constantLong RX8 292 (132528) ∈ js_good := List.mem_filter.mpr ⟨List.mem_append_right _ (List.mem_of_getElem? (i := 1205) (by decide +kernel)), by decide +kernel⟩
theorem tw_1206 : Cond.methodLink RX8 300 yX8_putsBack ∈ js_good := List.mem_filter.mpr ⟨List.mem_append_right _ (List.mem_of_getElem? (i := 1206) (by decide +kernel)), by decide +kernel⟩
theorem tw_1208 : Cond.instanceMethod yX8_putsBack ∈ js_good := List.mem_filter.mpr ⟨List.mem_append_right _ (List.mem_of_getElem? (i := 1208) (by decide +kernel)), by decide +kernel⟩
theorem tw_1209 : Cond.code yX8_putsBack cX8_putsBack 2 none ∈ js_good := List.mem_filter.mpr ⟨List.mem_append_right _ (List.mem_of_getElem? (i := 1209) (by decide +kernel)), by decide +kernel⟩
theorem tw_1211 : Cond.instanceMethod yX8_sheet ∈ js_good := List.mem_filter.mpr ⟨List.mem_append_right _ (List.mem_of_getElem? (i := 1211) (by decide +kernel)), by decide +kernel⟩
theorem tw_1212 : Cond.selects RX8 yX8_sheet yX8_sheet ∈ js_good := List.mem_filter.mpr ⟨List.mem_append_right _ (List.mem_of_getElem? (i := 1212) (by decide +kernel)), by decide +kernel⟩
theorem tw_1213 : Cond.code yX8_sheet cX8_sheet 5 (some (FieldType.int)) ∈ js_good := List.mem_filter.mpr ⟨List.mem_append_right _ (List.mem_of_getElem? (i := 1213) (by decide +kernel)), by decide +kernel⟩
theorem tw_1214 : Cond.methodLink RX8 305 yX8_isOne ∈ js_good := List.mem_filter.mpr ⟨List.mem_append_right _ (List.mem_of_getElem? (i := 1214) (by decide +kernel)), by decide +kernel⟩
theorem tw_1215 : Cond.static yX8_isOne ∈ js_good := List.mem_filter.mpr ⟨List.mem_append_right _ (List.mem_of_getElem? (i := 1215) (by decide +kernel)), by decide +kernel⟩
theorem tw_1216 : Cond.code yX8_isOne cX8_isOne 1 (some (FieldType.boolean)) ∈ js_good := List.mem_filter.mpr ⟨List.mem_append_right _ (List.mem_of_getElem? (i := 1216) (by decide +kernel)), by decide +kernel⟩
theorem tw_1217 : Cond.constantLong RX8 303 (3) ∈ js_good := List.mem_filter.mpr ⟨List.mem_append_right _ (List.mem_of_getElem? (i := 1217) (by decide +kernel)), by decide +kernel⟩
theorem tw_1218 : Cond.constant RX8 308 (-1000000007) ∈ js_good := List.mem_filter.mpr ⟨List.mem_append_right _ (List.mem_of_getElem? (i := 1218) (by decide +kernel)), by decide +kernel⟩
theorem tw_1220 : Cond.instanceMethod yX8_write ∈ js_good := List.mem_filter.mpr ⟨List.mem_append_right _ (List.mem_of_getElem? (i := 1220) (by decide +kernel)), by decide +kernel⟩
theorem tw_1221 : Cond.selects RX8 yX8_write yX8_write ∈ js_good := List.mem_filter.mpr ⟨List.mem_append_right _ (List.mem_of_getElem? (i := 1221) (by decide +kernel)), by decide +kernel⟩
theorem tw_1222 : Cond.code yX8_write cX8_write 8 (some (FieldType.long)) ∈ js_good := List.mem_filter.mpr ⟨List.mem_append_right _ (List.mem_of_getElem? (i := 1222) (by decide +kernel)), by decide +kernel⟩
theorem tw_1223 : Cond.methodLink RX8 310 yX8_wrongSheet ∈ js_good := List.mem_filter.mpr ⟨List.mem_append_right _ (List.mem_of_getElem? (i := 1223) (by decide +kernel)), by decide +kernel⟩
theorem tw_1225 : Cond.instanceMethod yX8_wrongSheet ∈ js_good := List.mem_filter.mpr ⟨List.mem_append_right _ (List.mem_of_getElem? (i := 1225) (by decide +kernel)), by decide +kernel⟩
theorem tw_1226 : Cond.code yX8_wrongSheet cX8_wrongSheet 2 (some (FieldType.int)) ∈ js_good := List.mem_filter.mpr ⟨List.mem_append_right _ (List.mem_of_getElem? (i := 1226) (by decide +kernel)), by decide +kernel⟩
theorem tw_1227 : Cond.constant RX8 309 (-1000000006) ∈ js_good := List.mem_filter.mpr ⟨List.mem_append_right _ (List.mem_of_getElem? (i := 1227) (by decide +kernel)), by decide +kernel⟩
theorem tw_1228 : Cond.methodLink RX8 313 yX8_narrowed ∈ js_good := List.mem_filter.mpr ⟨List.mem_append_right _ (List.mem_of_getElem? (i := 1228) (by decide +kernel)), by decide +kernel⟩
theorem tw_1229 : Cond.static yX8_narrowed ∈ js_good := List.mem_filter.mpr ⟨List.mem_append_right _ (List.mem_of_getElem? (i := 1229) (by decide +kernel)), by decide +kernel⟩
theorem tw_1230 : Cond.code yX8_narrowed cX8_narrowed 3 (some (FieldType.long)) ∈ js_good := List.mem_filter.mpr ⟨List.mem_append_right _ (List.mem_of_getElem? (i := 1230) (by decide +kernel)), by decide +kernel⟩
theorem tw_1232 : Cond.instanceMethod yX8_copy ∈ js_good := List.mem_filter.mpr ⟨List.mem_append_right _ (List.mem_of_getElem? (i := 1232) (by decide +kernel)), by decide +kernel⟩
theorem tw_1233 : Cond.selects RX8 yX8_copy yX8_copy ∈ js_good := List.mem_filter.mpr ⟨List.mem_append_right _ (List.mem_of_getElem? (i := 1233) (by decide +kernel)), by decide +kernel⟩
theorem tw_1234 : Cond.code yX8_copy cX8_copy 7 (some (FieldType.int)) ∈ js_good := List.mem_filter.mpr ⟨List.mem_append_right _ (List.mem_of_getElem? (i := 1234) (by decide +kernel)), by decide +kernel⟩
theorem tw_1236 : Cond.instanceMethod yX8_lays ∈ js_good := List.mem_filter.mpr ⟨List.mem_append_right _ (List.mem_of_getElem? (i := 1236) (by decide +kernel)), by decide +kernel⟩
theorem tw_1237 : Cond.selects RX8 yX8_lays yX8_lays ∈ js_good := List.mem_filter.mpr ⟨List.mem_append_right _ (List.mem_of_getElem? (i := 1237) (by decide +kernel)), by decide +kernel⟩
theorem tw_1238 : Cond.code yX8_lays cX8_lays 7 (some (FieldType.int)) ∈ js_good := List.mem_filter.mpr ⟨List.mem_append_right _ (List.mem_of_getElem? (i := 1238) (by decide +kernel)), by decide +kernel⟩
theorem tw_1239 : Cond.methodLink RX8 317 yX8_wrongFlue ∈ js_good := List.mem_filter.mpr ⟨List.mem_append_right _ (List.mem_of_getElem? (i := 1239) (by decide +kernel)), by decide +kernel⟩
theorem tw_1241 : Cond.instanceMethod yX8_wrongFlue ∈ js_good := List.mem_filter.mpr ⟨List.mem_append_right _ (List.mem_of_getElem? (i := 1241) (by decide +kernel)), by decide +kernel⟩
theorem tw_1242 : Cond.code yX8_wrongFlue cX8_wrongFlue 4 (some (FieldType.int)) ∈ js_good := List.mem_filter.mpr ⟨List.mem_append_right _ (List.mem_of_getElem? (i := 1242) (by decide +kernel)), by decide +kernel⟩
theorem tw_1244 : Cond.instanceMethod yX8_book ∈ js_good := List.mem_filter.mpr ⟨List.mem_append_right _ (List.mem_of_getElem? (i := 1244) (by decide +kernel)), by decide +kernel⟩
theorem tw_1245 : Cond.selects RX8 yX8_book yX8_book ∈ js_good := List.mem_filter.mpr ⟨List.mem_append_right _ (List.mem_of_getElem? (i := 1245) (by decide +kernel)), by decide +kernel⟩
theorem tw_1246 : Cond.code yX8_book cX8_book 5 (some (FieldType.int)) ∈ js_good := List.mem_filter.mpr ⟨List.mem_append_right _ (List.mem_of_getElem? (i := 1246) (by decide +kernel)), by decide +kernel⟩
theorem tw_1247 : Cond.constantLong RX8 320 (-1) ∈ js_good := List.mem_filter.mpr ⟨List.mem_append_right _ (List.mem_of_getElem? (i := 1247) (by decide +kernel)), by decide +kernel⟩
theorem tw_1249 : Cond.instanceMethod yX8_read ∈ js_good := List.mem_filter.mpr ⟨List.mem_append_right _ (List.mem_of_getElem? (i := 1249) (by decide +kernel)), by decide +kernel⟩
theorem tw_1250 : Cond.selects RX8 yX8_read yX8_read ∈ js_good := List.mem_filter.mpr ⟨List.mem_append_right _ (List.mem_of_getElem? (i := 1250) (by decide +kernel)), by decide +kernel⟩
theorem tw_1251 : Cond.code yX8_read cX8_read 6 (some (FieldType.int)) ∈ js_good := List.mem_filter.mpr ⟨List.mem_append_right _ (List.mem_of_getElem? (i := 1251) (by decide +kernel)), by decide +kernel⟩
theorem tw_1252 : Cond.methodLink RX8 322 yX8_isBook ∈ js_good := List.mem_filter.mpr ⟨List.mem_append_right _ (List.mem_of_getElem? (i := 1252) (by decide +kernel)), by decide +kernel⟩
theorem tw_1254 : Cond.instanceMethod yX8_isBook ∈ js_good := List.mem_filter.mpr ⟨List.mem_append_right _ (List.mem_of_getElem? (i := 1254) (by decide +kernel)), by decide +kernel⟩
theorem tw_1255 : Cond.code yX8_isBook cX8_isBook 4 (some (FieldType.boolean)) ∈ js_good := List.mem_filter.mpr ⟨List.mem_append_right _ (List.mem_of_getElem? (i := 1255) (by decide +kernel)), by decide +kernel⟩
theorem tw_1257 : Cond.instanceMethod yX8_image ∈ js_good := List.mem_filter.mpr ⟨List.mem_append_right _ (List.mem_of_getElem? (i := 1257) (by decide +kernel)), by decide +kernel⟩
theorem tw_1258 : Cond.selects RX8 yX8_image yX8_image ∈ js_good := List.mem_filter.mpr ⟨List.mem_append_right _ (List.mem_of_getElem? (i := 1258) (by decide +kernel)), by decide +kernel⟩
theorem tw_1259 : Cond.code yX8_image cX8_image 2 (some (FieldType.int)) ∈ js_good := List.mem_filter.mpr ⟨List.mem_append_right _ (List.mem_of_getElem? (i := 1259) (by decide +kernel)), by decide +kernel⟩
theorem tw_1261 : Cond.instanceMethod yX8_undo ∈ js_good := List.mem_filter.mpr ⟨List.mem_append_right _ (List.mem_of_getElem? (i := 1261) (by decide +kernel)), by decide +kernel⟩
theorem tw_1262 : Cond.selects RX8 yX8_undo yX8_undo ∈ js_good := List.mem_filter.mpr ⟨List.mem_append_right _ (List.mem_of_getElem? (i := 1262) (by decide +kernel)), by decide +kernel⟩
theorem tw_1263 : Cond.code yX8_undo cX8_undo 2 (some (FieldType.int)) ∈ js_good := List.mem_filter.mpr ⟨List.mem_append_right _ (List.mem_of_getElem? (i := 1263) (by decide +kernel)), by decide +kernel⟩
theorem tw_1265 : Cond.instanceMethod yX8_tear ∈ js_good := List.mem_filter.mpr ⟨List.mem_append_right _ (List.mem_of_getElem? (i := 1265) (by decide +kernel)), by decide +kernel⟩
theorem tw_1266 : Cond.selects RX8 yX8_tear yX8_tear ∈ js_good := List.mem_filter.mpr ⟨List.mem_append_right _ (List.mem_of_getElem? (i := 1266) (by decide +kernel)), by decide +kernel⟩
theorem tw_1267 : Cond.code yX8_tear cX8_tear 2 (some (FieldType.int)) ∈ js_good := List.mem_filter.mpr ⟨List.mem_append_right _ (List.mem_of_getElem? (i := 1267) (by decide +kernel)), by decide +kernel⟩
theorem tw_1269 : Cond.instanceMethod yX8_count ∈ js_good := List.mem_filter.mpr ⟨List.mem_append_right _ (List.mem_of_getElem? (i := 1269) (by decide +kernel)), by decide +kernel⟩
theorem tw_1270 : Cond.selects RX8 yX8_count yX8_count ∈ js_good := List.mem_filter.mpr ⟨List.mem_append_right _ (List.mem_of_getElem? (i := 1270) (by decide +kernel)), by decide +kernel⟩
theorem tw_1271 : Cond.code yX8_count cX8_count 2 (some (FieldType.int)) ∈ js_good := List.mem_filter.mpr ⟨List.mem_append_right _ (List.mem_of_getElem? (i := 1271) (by decide +kernel)), by decide +kernel⟩
theorem tw_1272 : Cond.methodLink RX8 328 yX8_fullOnes ∈ js_good := List.mem_filter.mpr ⟨List.mem_append_right _ (List.mem_of_getElem? (i := 1272) (by decide +kernel)), by decide +kernel⟩
theorem tw_1274 : Cond.instanceMethod yX8_fullOnes ∈ js_good := List.mem_filter.mpr ⟨List.mem_append_right _ (List.mem_of_getElem? (i := 1274) (by decide +kernel)), by decide +kernel⟩
theorem tw_1275 : Cond.code yX8_fullOnes cX8_fullOnes 3 (some (FieldType.int)) ∈ js_good := List.mem_filter.mpr ⟨List.mem_append_right _ (List.mem_of_getElem? (i := 1275) (by decide +kernel)), by decide +kernel⟩
theorem tw_1277 : Cond.instanceMethod yX8_status ∈ js_good := List.mem_filter.mpr ⟨List.mem_append_right _ (List.mem_of_getElem? (i := 1277) (by decide +kernel)), by decide +kernel⟩
theorem tw_1278 : Cond.selects RX8 yX8_status yX8_status ∈ js_good := List.mem_filter.mpr ⟨List.mem_append_right _ (List.mem_of_getElem? (i := 1278) (by decide +kernel)), by decide +kernel⟩
theorem tw_1279 : Cond.code yX8_status cX8_status 4 (some (FieldType.int)) ∈ js_good := List.mem_filter.mpr ⟨List.mem_append_right _ (List.mem_of_getElem? (i := 1279) (by decide +kernel)), by decide +kernel⟩
theorem tw_1280 : Cond.constantLong RX8 331 (6) ∈ js_good := List.mem_filter.mpr ⟨List.mem_append_right _ (List.mem_of_getElem? (i := 1280) (by decide +kernel)), by decide +kernel⟩
theorem tw_1282 : Cond.fieldLink RJ0 9 RJ0 "value" "[B" ∈ js_good := List.mem_filter.mpr ⟨List.mem_append_right _ (List.mem_of_getElem? (i := 1282) (by decide +kernel)), by decide +kernel⟩
theorem tw_1283 : Cond.fieldLink RJ0 15 RJ0 "coder" "B" ∈ js_good := List.mem_filter.mpr ⟨List.mem_append_right _ (List.mem_of_getElem? (i := 1283) (by decide +kernel)), by decide +kernel⟩
def shC : List js_Shp := [.inr (.inr (6, [some 1, some 6, none, some 11, some 13, some 15, some 17, some 18, some 22, some 23])), .inr (.inr (2, [none, none, none, some 2, some 3, some 4, some 5])), .inl 6, .inl 48, .inl 288, .inl 288, .inr (.inr (2, [none, none, none, some 7, some 8, some 9, some 10])), .inl 6, .inl 48, .inl 288, .inl 288, .inr (.inr (0, [none, none, some 12])), .inl 48, .inr (.inr (5, [none, none, some 14])), .inl 8, .inr (.inr (3, [none, none, none, none, none, some 16])), .inl 120, .inr (.inr (4, [none, none, none, none, none, none, none, none, none])), .inr (.inr (1, [some 19, some 20, some 21])), .inl 4, .inl 4, .inr (.inl 160), .inl 7, .inl 6]
def shM : List js_Shp := [.inr (.inr (7, [some 1, some 2, some 3, some 4, some 5, none, some 6, none, some 7, none, none, none, none, none, some 8, some 9, some 10, some 11])), .inl 633, .inl 633, .inl 633, .inl 633, .inl 7, .inl 48, .inl 120, .inl 4, .inl 4, .inr (.inl 160), .inr (.inl 40)]
theorem iX0 : ∀ w ∈ wsX00, w ∈ js_good := by decide +kernel
theorem iX2 : ∀ w ∈ wsX20, w ∈ js_good := by decide +kernel
theorem iX3 : ∀ w ∈ wsX30, w ∈ js_good := by decide +kernel
theorem iX4 : ∀ w ∈ wsX40, w ∈ js_good := by decide +kernel
theorem iX5 : ∀ w ∈ wsX50, w ∈ js_good := by decide +kernel
theorem iX6 : ∀ w ∈ wsX60, w ∈ js_good := by decide +kernel
theorem iX7 : ∀ w ∈ wsX70, w ∈ js_good := by decide +kernel
theorem iX8 : ∀ w ∈ wsX80, w ∈ js_good := by decide +kernel
theorem pn_X0 : plainName RX0 = true := by decide +kernel
theorem pn_X2 : plainName RX2 = true := by decide +kernel
theorem pn_X3 : plainName RX3 = true := by decide +kernel
theorem pn_X4 : plainName RX4 = true := by decide +kernel
theorem pn_X5 : plainName RX5 = true := by decide +kernel
theorem pn_X6 : plainName RX6 = true := by decide +kernel
theorem pn_X7 : plainName RX7 = true := by decide +kernel
theorem pn_X8 : plainName RX8 = true := by decide +kernel
theorem pn_X1 : plainName RX1 = true := by decide +kernel
theorem pn_J6 : plainName RJ6 = true := by decide +kernel
theorem pn_J0 : plainName RJ0 = true := by decide +kernel
theorem pn_J1 : plainName RJ1 = true := by decide +kernel
theorem pn_J3 : plainName RJ3 = true := by decide +kernel
theorem kb_6 : (Int8.ofInt (6)).toInt32 = (6 : Int32) := by decide
theorem kb_7 : (Int8.ofInt (7)).toInt32 = (7 : Int32) := by decide
theorem kb_8 : (Int8.ofInt (8)).toInt32 = (8 : Int32) := by decide
theorem kb_9 : (Int8.ofInt (9)).toInt32 = (9 : Int32) := by decide
theorem kb_10 : (Int8.ofInt (10)).toInt32 = (10 : Int32) := by decide
theorem kb_15 : (Int8.ofInt (15)).toInt32 = (15 : Int32) := by decide
theorem kb_16 : (Int8.ofInt (16)).toInt32 = (16 : Int32) := by decide
theorem kb_32 : (Int8.ofInt (32)).toInt32 = (32 : Int32) := by decide
theorem kb_40 : (Int8.ofInt (40)).toInt32 = (40 : Int32) := by decide
theorem kb_48 : (Int8.ofInt (48)).toInt32 = (48 : Int32) := by decide
theorem kb_57 : (Int8.ofInt (57)).toInt32 = (57 : Int32) := by decide
theorem kb_59 : (Int8.ofInt (59)).toInt32 = (59 : Int32) := by decide
theorem kb_60 : (Int8.ofInt (60)).toInt32 = (60 : Int32) := by decide
theorem kb_61 : (Int8.ofInt (61)).toInt32 = (61 : Int32) := by decide
theorem kb_63 : (Int8.ofInt (63)).toInt32 = (63 : Int32) := by decide
theorem kb_64 : (Int8.ofInt (64)).toInt32 = (64 : Int32) := by decide
theorem kb_72 : (Int8.ofInt (72)).toInt32 = (72 : Int32) := by decide
theorem kb_80 : (Int8.ofInt (80)).toInt32 = (80 : Int32) := by decide
theorem kb_96 : (Int8.ofInt (96)).toInt32 = (96 : Int32) := by decide
theorem kb_97 : (Int8.ofInt (97)).toInt32 = (97 : Int32) := by decide
theorem kb_120 : (Int8.ofInt (120)).toInt32 = (120 : Int32) := by decide
theorem kb_122 : (Int8.ofInt (122)).toInt32 = (122 : Int32) := by decide
theorem ki_m1 : Int32.ofInt (-1) = (-1 : Int32) := by decide
theorem ki_0 : Int32.ofInt (0) = (0 : Int32) := by decide
theorem ki_1 : Int32.ofInt (1) = (1 : Int32) := by decide
theorem ki_2 : Int32.ofInt (2) = (2 : Int32) := by decide
theorem ki_3 : Int32.ofInt (3) = (3 : Int32) := by decide
theorem ki_4 : Int32.ofInt (4) = (4 : Int32) := by decide
theorem ki_5 : Int32.ofInt (5) = (5 : Int32) := by decide
theorem kx_m1 (x : Int32) : x + Int32.ofInt (-1) = x + (-1 : Int32) := by rw [show Int32.ofInt (-1) = (-1 : Int32) from by decide]
theorem kx_1 (x : Int32) : x + Int32.ofInt (1) = x + (1 : Int32) := by rw [show Int32.ofInt (1) = (1 : Int32) from by decide]
theorem kl_0 : Int64.ofNat ((0 : Fin 2) : Nat) = (0 : Int64) := by decide
theorem kl_1 : Int64.ofNat ((1 : Fin 2) : Nat) = (1 : Int64) := by decide
theorem ks_255 : (Int16.ofInt (255)).toInt32 = (255 : Int32) := by decide
theorem ks_345 : (Int16.ofInt (345)).toInt32 = (345 : Int32) := by decide
theorem ks_633 : (Int16.ofInt (633)).toInt32 = (633 : Int32) := by decide
theorem ks_999 : (Int16.ofInt (999)).toInt32 = (999 : Int32) := by decide
theorem ks_1000 : (Int16.ofInt (1000)).toInt32 = (1000 : Int32) := by decide
theorem ks_9999 : (Int16.ofInt (9999)).toInt32 = (9999 : Int32) := by decide
def mJ0_charAt_5068e : js_M := (yJ0_charAt_5068e, cJ0_charAt_5068e, 2, some (.char), 4, 85)
theorem cm_J0_charAt_5068e : js_Cm mJ0_charAt_5068e 1 := ⟨tw_12, tw_597, by decide +kernel⟩
theorem cv_J0_charAt_5068e : js_Cv mJ0_charAt_5068e := ⟨tw_595, tw_596⟩
def mJ0_checkIndex_df160 : js_M := (yJ0_checkIndex_df160, cJ0_checkIndex_df160, 2, none, 1, 22)
theorem cm_J0_checkIndex_df160 : js_Cm mJ0_checkIndex_df160 2 := ⟨tw_12, tw_607, by decide +kernel⟩
def mJ0_coder_7d493 : js_M := (yJ0_coder_7d493, cJ0_coder_7d493, 1, some (.byte), 0, 0)
theorem cm_J0_coder_7d493 : js_Cm mJ0_coder_7d493 0 := ⟨tw_12, tw_591, by decide +kernel⟩
theorem cv_J0_coder_7d493 : js_Cv mJ0_coder_7d493 := ⟨tw_589, tw_590⟩
def mJ0_isLatin1_aae02 : js_M := (yJ0_isLatin1_aae02, cJ0_isLatin1_aae02, 1, some (.boolean), 0, 0)
theorem cm_J0_isLatin1_aae02 : js_Cm mJ0_isLatin1_aae02 0 := ⟨tw_12, tw_601, by decide +kernel⟩
theorem cv_J0_isLatin1_aae02 : js_Cv mJ0_isLatin1_aae02 := ⟨tw_599, tw_600⟩
def mJ0_length_8abf5 : js_M := (yJ0_length_8abf5, cJ0_length_8abf5, 1, some (.int), 1, 20)
theorem cm_J0_length_8abf5 : js_Cm mJ0_length_8abf5 0 := ⟨tw_12, tw_587, by decide +kernel⟩
theorem cv_J0_length_8abf5 : js_Cv mJ0_length_8abf5 := ⟨tw_585, tw_586⟩
def mJ1_charAt_3b067 : js_M := (yJ1_charAt_3b067, cJ1_charAt_3b067, 2, some (.char), 2, 43)
theorem cm_J1_charAt_3b067 : js_Cm mJ1_charAt_3b067 2 := ⟨tw_13, tw_604, by decide +kernel⟩
def mJ3_checkIndex_8e157 : js_M := (yJ3_checkIndex_8e157, cJ3_checkIndex_8e157, 3, some (.int), 0, 0)
theorem cm_J3_checkIndex_8e157 : js_Cm mJ3_checkIndex_8e157 3 := ⟨tw_14, tw_612, by decide +kernel⟩
def mJ6_bitCount_0f7a4 : js_M := (yJ6_bitCount_0f7a4, cJ6_bitCount_0f7a4, 1, some (.int), 0, 0)
theorem cm_J6_bitCount_0f7a4 : js_Cm mJ6_bitCount_0f7a4 1 := ⟨tw_11, tw_478, by decide +kernel⟩
def mX0_brings : js_M := (yX0_brings, cX0_brings, 2, some (.boolean), 0, 0)
theorem cm_X0_brings : js_Cm mX0_brings 1 := ⟨tw_3, tw_463, by decide +kernel⟩
theorem cv_X0_brings : js_Cv mX0_brings := ⟨tw_461, tw_462⟩
def mX0_putUp : js_M := (yX0_putUp, cX0_putUp, 10, none, 4, 93)
theorem cm_X0_putUp : js_Cm mX0_putUp 5 := ⟨tw_3, tw_431, by decide +kernel⟩
theorem cv_X0_putUp : js_Cv mX0_putUp := ⟨tw_429, tw_430⟩
def mX0_take : js_M := (yX0_take, cX0_take, 2, none, 0, 0)
theorem cm_X0_take : js_Cm mX0_take 1 := ⟨tw_3, tw_439, by decide +kernel⟩
theorem cv_X0_take : js_Cv mX0_take := ⟨tw_438, tw_sX0_take⟩
def mX0_word : js_M := (yX0_word, cX0_word, 2, some (.int), 0, 0)
theorem cm_X0_word : js_Cm mX0_word 1 := ⟨tw_3, tw_447, by decide +kernel⟩
theorem cv_X0_word : js_Cv mX0_word := ⟨tw_445, tw_446⟩
def mX1_cakes : js_M := (yX1_cakes, cX1_cakes, 4, some (.int), 1, 21)
theorem cm_X1_cakes : js_Cm mX1_cakes 2 := ⟨tw_9, tw_269, by decide +kernel⟩
def mX1_holds : js_M := (yX1_holds, cX1_holds, 4, some (.int), 0, 0)
theorem cm_X1_holds : js_Cm mX1_holds 2 := ⟨tw_9, tw_285, by decide +kernel⟩
def mX1_isOrIsUnder : js_M := (yX1_isOrIsUnder, cX1_isOrIsUnder, 4, some (.boolean), 0, 0)
theorem cm_X1_isOrIsUnder : js_Cm mX1_isOrIsUnder 2 := ⟨tw_9, tw_319, by decide +kernel⟩
def mX1_name : js_M := (yX1_name, cX1_name, 1, some (.object "java/lang/String"), 0, 0)
theorem cm_X1_name : js_Cm mX1_name 1 := ⟨tw_9, tw_654, by decide +kernel⟩
def mX1_rise : js_M := (yX1_rise, cX1_rise, 7, some (.int), 1, 21)
theorem cm_X1_rise : js_Cm mX1_rise 4 := ⟨tw_9, tw_339, by decide +kernel⟩
def mX1_settle : js_M := (yX1_settle, cX1_settle, 6, some (.int), 1, 23)
theorem cm_X1_settle : js_Cm mX1_settle 4 := ⟨tw_9, tw_359, by decide +kernel⟩
def mX2_cut : js_M := (yX2_cut, cX2_cut, 3, some (.long), 0, 0)
theorem cm_X2_cut : js_Cm mX2_cut 2 := ⟨tw_7, tw_726, by decide +kernel⟩
def mX2_hasRange : js_M := (yX2_hasRange, cX2_hasRange, 4, some (.boolean), 2, 41)
theorem cm_X2_hasRange : js_Cm mX2_hasRange 3 := ⟨tw_7, tw_718, by decide +kernel⟩
theorem cv_X2_hasRange : js_Cv mX2_hasRange := ⟨tw_716, tw_717⟩
def mX2_isMissing : js_M := (yX2_isMissing, cX2_isMissing, 2, some (.boolean), 2, 41)
theorem cm_X2_isMissing : js_Cm mX2_isMissing 1 := ⟨tw_7, tw_701, by decide +kernel⟩
theorem cv_X2_isMissing : js_Cv mX2_isMissing := ⟨tw_699, tw_700⟩
def mX2_isSheet : js_M := (yX2_isSheet, cX2_isSheet, 1, some (.boolean), 0, 0)
theorem cm_X2_isSheet : js_Cm mX2_isSheet 1 := ⟨tw_7, tw_680, by decide +kernel⟩
def mX2_isWidth : js_M := (yX2_isWidth, cX2_isWidth, 1, some (.boolean), 0, 0)
theorem cm_X2_isWidth : js_Cm mX2_isWidth 1 := ⟨tw_7, tw_683, by decide +kernel⟩
def mX2_layOut : js_M := (yX2_layOut, cX2_layOut, 5, some (.int), 1, 20)
theorem cm_X2_layOut : js_Cm mX2_layOut 3 := ⟨tw_7, tw_688, by decide +kernel⟩
theorem cv_X2_layOut : js_Cv mX2_layOut := ⟨tw_686, tw_687⟩
def mX2_length : js_M := (yX2_length, cX2_length, 2, some (.int), 1, 20)
theorem cm_X2_length : js_Cm mX2_length 1 := ⟨tw_7, tw_710, by decide +kernel⟩
theorem cv_X2_length : js_Cv mX2_length := ⟨tw_708, tw_709⟩
def mX2_move : js_M := (yX2_move, cX2_move, 6, none, 3, 64)
theorem cm_X2_move : js_Cm mX2_move 5 := ⟨tw_7, tw_736, by decide +kernel⟩
theorem cv_X2_move : js_Cv mX2_move := ⟨tw_734, tw_735⟩
def mX2_number : js_M := (yX2_number, cX2_number, 3, some (.long), 3, 64)
theorem cm_X2_number : js_Cm mX2_number 2 := ⟨tw_7, tw_714, by decide +kernel⟩
theorem cv_X2_number : js_Cv mX2_number := ⟨tw_712, tw_713⟩
def mX2_put : js_M := (yX2_put, cX2_put, 5, none, 3, 64)
theorem cm_X2_put : js_Cm mX2_put 3 := ⟨tw_7, tw_723, by decide +kernel⟩
theorem cv_X2_put : js_Cv mX2_put := ⟨tw_721, tw_722⟩
def mX2_width : js_M := (yX2_width, cX2_width, 2, some (.int), 1, 20)
theorem cm_X2_width : js_Cm mX2_width 1 := ⟨tw_7, tw_705, by decide +kernel⟩
theorem cv_X2_width : js_Cv mX2_width := ⟨tw_703, tw_704⟩
def mX3_addFlue : js_M := (yX3_addFlue, cX3_addFlue, 3, some (.int), 0, 0)
theorem cm_X3_addFlue : js_Cm mX3_addFlue 1 := ⟨tw_2, tw_226, by decide +kernel⟩
theorem cv_X3_addFlue : js_Cv mX3_addFlue := ⟨tw_224, tw_225⟩
def mX3_allCake : js_M := (yX3_allCake, cX3_allCake, 5, some (.int), 4, 89)
theorem cm_X3_allCake : js_Cm mX3_allCake 0 := ⟨tw_2, tw_408, by decide +kernel⟩
theorem cv_X3_allCake : js_Cv mX3_allCake := ⟨tw_406, tw_407⟩
def mX3_allLayers : js_M := (yX3_allLayers, cX3_allLayers, 3, some (.int), 3, 66)
theorem cm_X3_allLayers : js_Cm mX3_allLayers 0 := ⟨tw_2, tw_398, by decide +kernel⟩
theorem cv_X3_allLayers : js_Cv mX3_allLayers := ⟨tw_396, tw_397⟩
def mX3_allWords : js_M := (yX3_allWords, cX3_allWords, 3, some (.int), 5, 115)
theorem cm_X3_allWords : js_Cm mX3_allWords 0 := ⟨tw_2, tw_403, by decide +kernel⟩
theorem cv_X3_allWords : js_Cv mX3_allWords := ⟨tw_401, tw_402⟩
def mX3_bareBends : js_M := (yX3_bareBends, cX3_bareBends, 4, some (.int), 2, 43)
theorem cm_X3_bareBends : js_Cm mX3_bareBends 1 := ⟨tw_2, tw_266, by decide +kernel⟩
theorem cv_X3_bareBends : js_Cv mX3_bareBends := ⟨tw_264, tw_265⟩
def mX3_become : js_M := (yX3_become, cX3_become, 2, none, 1, 40)
theorem cm_X3_become : js_Cm mX3_become 1 := ⟨tw_2, tw_769, by decide +kernel⟩
theorem cv_X3_become : js_Cv mX3_become := ⟨tw_767, tw_768⟩
def mX3_cakeAt : js_M := (yX3_cakeAt, cX3_cakeAt, 4, some (.int), 3, 66)
theorem cm_X3_cakeAt : js_Cm mX3_cakeAt 3 := ⟨tw_2, tw_304, by decide +kernel⟩
theorem cv_X3_cakeAt : js_Cv mX3_cakeAt := ⟨tw_302, tw_303⟩
def mX3_fullBends : js_M := (yX3_fullBends, cX3_fullBends, 4, some (.int), 2, 43)
theorem cm_X3_fullBends : js_Cm mX3_fullBends 0 := ⟨tw_2, tw_786, by decide +kernel⟩
theorem cv_X3_fullBends : js_Cv mX3_fullBends := ⟨tw_784, tw_785⟩
def mX3_hasFlue : js_M := (yX3_hasFlue, cX3_hasFlue, 2, some (.boolean), 0, 0)
theorem cm_X3_hasFlue : js_Cm mX3_hasFlue 1 := ⟨tw_2, tw_234, by decide +kernel⟩
theorem cv_X3_hasFlue : js_Cv mX3_hasFlue := ⟨tw_232, tw_233⟩
def mX3_hasLayer : js_M := (yX3_hasLayer, cX3_hasLayer, 4, some (.boolean), 2, 43)
theorem cm_X3_hasLayer : js_Cm mX3_hasLayer 3 := ⟨tw_2, tw_294, by decide +kernel⟩
theorem cv_X3_hasLayer : js_Cv mX3_hasLayer := ⟨tw_292, tw_293⟩
def mX3_height : js_M := (yX3_height, cX3_height, 3, some (.int), 1, 21)
theorem cm_X3_height : js_Cm mX3_height 2 := ⟨tw_2, tw_247, by decide +kernel⟩
theorem cv_X3_height : js_Cv mX3_height := ⟨tw_245, tw_246⟩
def mX3_kindOf : js_M := (yX3_kindOf, cX3_kindOf, 2, some (.int), 1, 21)
theorem cm_X3_kindOf : js_Cm mX3_kindOf 1 := ⟨tw_2, tw_238, by decide +kernel⟩
theorem cv_X3_kindOf : js_Cv mX3_kindOf := ⟨tw_236, tw_237⟩
def mX3_landing : js_M := (yX3_landing, cX3_landing, 5, some (.int), 2, 48)
theorem cm_X3_landing : js_Cm mX3_landing 3 := ⟨tw_2, tw_354, by decide +kernel⟩
theorem cv_X3_landing : js_Cv mX3_landing := ⟨tw_352, tw_353⟩
def mX3_lay : js_M := (yX3_lay, cX3_lay, 7, none, 2, 43)
theorem cm_X3_lay : js_Cm mX3_lay 4 := ⟨tw_2, tw_364, by decide +kernel⟩
theorem cv_X3_lay : js_Cv mX3_lay := ⟨tw_362, tw_363⟩
def mX3_layersIn : js_M := (yX3_layersIn, cX3_layersIn, 4, some (.int), 2, 43)
theorem cm_X3_layersIn : js_Cm mX3_layersIn 1 := ⟨tw_2, tw_243, by decide +kernel⟩
theorem cv_X3_layersIn : js_Cv mX3_layersIn := ⟨tw_241, tw_242⟩
def mX3_layersOfCake : js_M := (yX3_layersOfCake, cX3_layersOfCake, 6, some (.int), 4, 89)
theorem cm_X3_layersOfCake : js_Cm mX3_layersOfCake 1 := ⟨tw_2, tw_390, by decide +kernel⟩
theorem cv_X3_layersOfCake : js_Cv mX3_layersOfCake := ⟨tw_388, tw_389⟩
def mX3_loose : js_M := (yX3_loose, cX3_loose, 8, some (.int), 3, 66)
theorem cm_X3_loose : js_Cm mX3_loose 4 := ⟨tw_2, tw_423, by decide +kernel⟩
theorem cv_X3_loose : js_Cv mX3_loose := ⟨tw_421, tw_422⟩
def mX3_lowestWith : js_M := (yX3_lowestWith, cX3_lowestWith, 4, some (.int), 4, 92)
theorem cm_X3_lowestWith : js_Cm mX3_lowestWith 2 := ⟨tw_2, tw_504, by decide +kernel⟩
theorem cv_X3_lowestWith : js_Cv mX3_lowestWith := ⟨tw_502, tw_503⟩
def mX3_passDays : js_M := (yX3_passDays, cX3_passDays, 6, none, 4, 90)
theorem cm_X3_passDays : js_Cm mX3_passDays 1 := ⟨tw_2, tw_382, by decide +kernel⟩
theorem cv_X3_passDays : js_Cv mX3_passDays := ⟨tw_380, tw_381⟩
def mX3_place : js_M := (yX3_place, cX3_place, 4, some (.int), 2, 43)
theorem cm_X3_place : js_Cm mX3_place 3 := ⟨tw_2, tw_262, by decide +kernel⟩
theorem cv_X3_place : js_Cv mX3_place := ⟨tw_261, tw_sX3_place⟩
def mX3_setCake : js_M := (yX3_setCake, cX3_setCake, 5, none, 3, 66)
theorem cm_X3_setCake : js_Cm mX3_setCake 4 := ⟨tw_2, tw_373, by decide +kernel⟩
theorem cv_X3_setCake : js_Cv mX3_setCake := ⟨tw_371, tw_372⟩
def mX3_setKind : js_M := (yX3_setKind, cX3_setKind, 3, none, 1, 21)
theorem cm_X3_setKind : js_Cm mX3_setKind 2 := ⟨tw_2, tw_312, by decide +kernel⟩
theorem cv_X3_setKind : js_Cv mX3_setKind := ⟨tw_310, tw_311⟩
def mX3_speak : js_M := (yX3_speak, cX3_speak, 5, some (.int), 3, 72)
theorem cm_X3_speak : js_Cm mX3_speak 3 := ⟨tw_2, tw_350, by decide +kernel⟩
theorem cv_X3_speak : js_Cv mX3_speak := ⟨tw_348, tw_349⟩
def mX3_takeDown : js_M := (yX3_takeDown, cX3_takeDown, 7, some (.int), 4, 93)
theorem cm_X3_takeDown : js_Cm mX3_takeDown 3 := ⟨tw_2, tw_419, by decide +kernel⟩
theorem cv_X3_takeDown : js_Cv mX3_takeDown := ⟨tw_417, tw_418⟩
def mX3_wordAt : js_M := (yX3_wordAt, cX3_wordAt, 4, some (.int), 3, 66)
theorem cm_X3_wordAt : js_Cm mX3_wordAt 3 := ⟨tw_2, tw_299, by decide +kernel⟩
theorem cv_X3_wordAt : js_Cv mX3_wordAt := ⟨tw_297, tw_298⟩
def mX3_wordsIn : js_M := (yX3_wordsIn, cX3_wordsIn, 4, some (.int), 4, 92)
theorem cm_X3_wordsIn : js_Cm mX3_wordsIn 1 := ⟨tw_2, tw_254, by decide +kernel⟩
theorem cv_X3_wordsIn : js_Cv mX3_wordsIn := ⟨tw_252, tw_253⟩
def mX3_wordsOn : js_M := (yX3_wordsOn, cX3_wordsOn, 7, some (.int), 3, 66)
theorem cm_X3_wordsOn : js_Cm mX3_wordsOn 2 := ⟨tw_2, tw_258, by decide +kernel⟩
theorem cv_X3_wordsOn : js_Cv mX3_wordsOn := ⟨tw_256, tw_257⟩
def mX4_add : js_M := (yX4_add, cX4_add, 2, none, 0, 0)
theorem cm_X4_add : js_Cm mX4_add 1 := ⟨tw_5, tw_543, by decide +kernel⟩
theorem cv_X4_add : js_Cv mX4_add := ⟨tw_541, tw_542⟩
def mX4_at : js_M := (yX4_at, cX4_at, 2, some (.int), 0, 0)
theorem cm_X4_at : js_Cm mX4_at 1 := ⟨tw_5, tw_567, by decide +kernel⟩
theorem cv_X4_at : js_Cv mX4_at := ⟨tw_566, tw_sX4_at⟩
def mX4_begin : js_M := (yX4_begin, cX4_begin, 1, none, 2, 41)
theorem cm_X4_begin : js_Cm mX4_begin 0 := ⟨tw_5, tw_559, by decide +kernel⟩
theorem cv_X4_begin : js_Cv mX4_begin := ⟨tw_557, tw_558⟩
def mX4_hasRoom : js_M := (yX4_hasRoom, cX4_hasRoom, 2, some (.boolean), 0, 0)
theorem cm_X4_hasRoom : js_Cm mX4_hasRoom 1 := ⟨tw_5, tw_539, by decide +kernel⟩
theorem cv_X4_hasRoom : js_Cv mX4_hasRoom := ⟨tw_537, tw_538⟩
def mX4_isDigit : js_M := (yX4_isDigit, cX4_isDigit, 1, some (.boolean), 0, 0)
theorem cm_X4_isDigit : js_Cm mX4_isDigit 1 := ⟨tw_5, tw_573, by decide +kernel⟩
def mX4_isLetter : js_M := (yX4_isLetter, cX4_isLetter, 1, some (.boolean), 0, 0)
theorem cm_X4_isLetter : js_Cm mX4_isLetter 1 := ⟨tw_5, tw_570, by decide +kernel⟩
def mX4_pass : js_M := (yX4_pass, cX4_pass, 3, some (.boolean), 5, 106)
theorem cm_X4_pass : js_Cm mX4_pass 1 := ⟨tw_5, tw_583, by decide +kernel⟩
theorem cv_X4_pass : js_Cv mX4_pass := ⟨tw_581, tw_582⟩
def mX4_passNumber : js_M := (yX4_passNumber, cX4_passNumber, 3, some (.int), 2, 41)
theorem cm_X4_passNumber : js_Cm mX4_passNumber 1 := ⟨tw_5, tw_639, by decide +kernel⟩
theorem cv_X4_passNumber : js_Cv mX4_passNumber := ⟨tw_637, tw_638⟩
def mX4_step : js_M := (yX4_step, cX4_step, 1, none, 1, 21)
theorem cm_X4_step : js_Cm mX4_step 0 := ⟨tw_5, tw_563, by decide +kernel⟩
theorem cv_X4_step : js_Cv mX4_step := ⟨tw_561, tw_562⟩
def mX5_goThrough : js_M := (yX5_goThrough, cX5_goThrough, 5, some (.int), 8, 171)
theorem cm_X5_goThrough : js_Cm mX5_goThrough 3 := ⟨tw_6, tw_555, by decide +kernel⟩
theorem cv_X5_goThrough : js_Cv mX5_goThrough := ⟨tw_553, tw_554⟩
def mX5_passDamp : js_M := (yX5_passDamp, cX5_passDamp, 2, some (.boolean), 3, 63)
theorem cm_X5_passDamp : js_Cm mX5_passDamp 1 := ⟨tw_6, tw_651, by decide +kernel⟩
theorem cv_X5_passDamp : js_Cv mX5_passDamp := ⟨tw_650, tw_sX5_passDamp⟩
def mX5_passFlue : js_M := (yX5_passFlue, cX5_passFlue, 2, some (.boolean), 0, 0)
theorem cm_X5_passFlue : js_Cm mX5_passFlue 1 := ⟨tw_6, tw_664, by decide +kernel⟩
theorem cv_X5_passFlue : js_Cv mX5_passFlue := ⟨tw_663, tw_sX5_passFlue⟩
def mX5_passItem : js_M := (yX5_passItem, cX5_passItem, 3, some (.boolean), 7, 149)
theorem cm_X5_passItem : js_Cm mX5_passItem 1 := ⟨tw_6, tw_578, by decide +kernel⟩
theorem cv_X5_passItem : js_Cv mX5_passItem := ⟨tw_577, tw_sX5_passItem⟩
def mX5_passLayer : js_M := (yX5_passLayer, cX5_passLayer, 2, some (.boolean), 6, 128)
theorem cm_X5_passLayer : js_Cm mX5_passLayer 1 := ⟨tw_6, tw_645, by decide +kernel⟩
theorem cv_X5_passLayer : js_Cv mX5_passLayer := ⟨tw_644, tw_sX5_passLayer⟩
def mX5_passSaying : js_M := (yX5_passSaying, cX5_passSaying, 2, some (.boolean), 6, 128)
theorem cm_X5_passSaying : js_Cm mX5_passSaying 1 := ⟨tw_6, tw_635, by decide +kernel⟩
theorem cv_X5_passSaying : js_Cv mX5_passSaying := ⟨tw_634, tw_sX5_passSaying⟩
def mX5_perform : js_M := (yX5_perform, cX5_perform, 2, none, 4, 96)
theorem cm_X5_perform : js_Cm mX5_perform 1 := ⟨tw_6, tw_668, by decide +kernel⟩
theorem cv_X5_perform : js_Cv mX5_perform := ⟨tw_667, tw_sX5_perform⟩
def mX6_settleOne : js_M := (yX6_settleOne, cX6_settleOne, 4, none, 2, 48)
theorem cm_X6_settleOne : js_Cm mX6_settleOne 2 := ⟨tw_4, tw_521, by decide +kernel⟩
theorem cv_X6_settleOne : js_Cv mX6_settleOne := ⟨tw_520, tw_sX6_settleOne⟩
def mX6_speakAll : js_M := (yX6_speakAll, cX6_speakAll, 7, none, 3, 71)
theorem cm_X6_speakAll : js_Cm mX6_speakAll 5 := ⟨tw_4, tw_514, by decide +kernel⟩
theorem cv_X6_speakAll : js_Cv mX6_speakAll := ⟨tw_512, tw_513⟩
def mX7_as : js_M := (yX7_as, cX7_as, 3, some (.int), 3, 66)
theorem cm_X7_as : js_Cm mX7_as 2 := ⟨tw_1, tw_316, by decide +kernel⟩
theorem cv_X7_as : js_Cv mX7_as := ⟨tw_314, tw_315⟩
def mX7_bend : js_M := (yX7_bend, cX7_bend, 4, some (.int), 4, 92)
theorem cm_X7_bend : js_Cm mX7_bend 3 := ⟨tw_1, tw_276, by decide +kernel⟩
theorem cv_X7_bend : js_Cv mX7_bend := ⟨tw_274, tw_275⟩
def mX7_best : js_M := (yX7_best, cX7_best, 6, some (.int), 4, 97)
theorem cm_X7_best : js_Cm mX7_best 2 := ⟨tw_1, tw_527, by decide +kernel⟩
theorem cv_X7_best : js_Cv mX7_best := ⟨tw_525, tw_526⟩
def mX7_book : js_M := (yX7_book, cX7_book, 5, some (.int), 5, 122)
theorem cm_X7_book : js_Cm mX7_book 2 := ⟨tw_1, tw_752, by decide +kernel⟩
theorem cv_X7_book : js_Cv mX7_book := ⟨tw_750, tw_751⟩
def mX7_brought : js_M := (yX7_brought, cX7_brought, 4, some (.int), 5, 122)
theorem cm_X7_brought : js_Cm mX7_brought 3 := ⟨tw_1, tw_427, by decide +kernel⟩
theorem cv_X7_brought : js_Cv mX7_brought := ⟨tw_425, tw_426⟩
def mX7_cake : js_M := (yX7_cake, cX7_cake, 6, some (.int), 4, 90)
theorem cm_X7_cake : js_Cm mX7_cake 4 := ⟨tw_1, tw_369, by decide +kernel⟩
theorem cv_X7_cake : js_Cv mX7_cake := ⟨tw_367, tw_368⟩
def mX7_copy : js_M := (yX7_copy, cX7_copy, 6, some (.int), 4, 89)
theorem cm_X7_copy : js_Cm mX7_copy 5 := ⟨tw_1, tw_730, by decide +kernel⟩
theorem cv_X7_copy : js_Cv mX7_copy := ⟨tw_728, tw_729⟩
def mX7_count : js_M := (yX7_count, cX7_count, 2, some (.int), 5, 114)
theorem cm_X7_count : js_Cm mX7_count 1 := ⟨tw_1, tw_782, by decide +kernel⟩
theorem cv_X7_count : js_Cv mX7_count := ⟨tw_780, tw_781⟩
def mX7_covers : js_M := (yX7_covers, cX7_covers, 6, some (.int), 5, 115)
theorem cm_X7_covers : js_Cm mX7_covers 3 := ⟨tw_1, tw_500, by decide +kernel⟩
theorem cv_X7_covers : js_Cv mX7_covers := ⟨tw_498, tw_499⟩
def mX7_damp : js_M := (yX7_damp, cX7_damp, 3, some (.int), 1, 22)
theorem cm_X7_damp : js_Cm mX7_damp 1 := ⟨tw_1, tw_326, by decide +kernel⟩
theorem cv_X7_damp : js_Cv mX7_damp := ⟨tw_324, tw_325⟩
def mX7_days : js_M := (yX7_days, cX7_days, 2, some (.int), 5, 115)
theorem cm_X7_days : js_Cm mX7_days 1 := ⟨tw_1, tw_377, by decide +kernel⟩
theorem cv_X7_days : js_Cv mX7_days := ⟨tw_375, tw_376⟩
def mX7_feed : js_M := (yX7_feed, cX7_feed, 4, some (.int), 1, 22)
theorem cm_X7_feed : js_Cm mX7_feed 2 := ⟨tw_1, tw_535, by decide +kernel⟩
theorem cv_X7_feed : js_Cv mX7_feed := ⟨tw_533, tw_534⟩
def mX7_fewest : js_M := (yX7_fewest, cX7_fewest, 6, some (.int), 5, 122)
theorem cm_X7_fewest : js_Cm mX7_fewest 2 := ⟨tw_1, tw_475, by decide +kernel⟩
theorem cv_X7_fewest : js_Cv mX7_fewest := ⟨tw_473, tw_474⟩
def mX7_flue : js_M := (yX7_flue, cX7_flue, 2, some (.int), 2, 41)
theorem cm_X7_flue : js_Cm mX7_flue 1 := ⟨tw_1, tw_210, by decide +kernel⟩
theorem cv_X7_flue : js_Cv mX7_flue := ⟨tw_208, tw_209⟩
def mX7_found : js_M := (yX7_found, cX7_found, 3, some (.int), 0, 0)
theorem cm_X7_found : js_Cm mX7_found 1 := ⟨tw_1, tw_221, by decide +kernel⟩
theorem cv_X7_found : js_Cv mX7_found := ⟨tw_220, tw_sX7_found⟩
def mX7_hasBit : js_M := (yX7_hasBit, cX7_hasBit, 2, some (.boolean), 0, 0)
theorem cm_X7_hasBit : js_Cm mX7_hasBit 2 := ⟨tw_1, tw_488, by decide +kernel⟩
def mX7_house : js_M := (yX7_house, cX7_house, 2, some (.int), 9, 195)
theorem cm_X7_house : js_Cm mX7_house 0 := ⟨tw_1, tw_551, by decide +kernel⟩
theorem cv_X7_house : js_Cv mX7_house := ⟨tw_549, tw_550⟩
def mX7_image : js_M := (yX7_image, cX7_image, 1, some (.int), 2, 61)
theorem cm_X7_image : js_Cm mX7_image 0 := ⟨tw_1, tw_765, by decide +kernel⟩
theorem cv_X7_image : js_Cv mX7_image := ⟨tw_763, tw_764⟩
def mX7_isBelow : js_M := (yX7_isBelow, cX7_isBelow, 2, some (.boolean), 0, 0)
theorem cm_X7_isBelow : js_Cm mX7_isBelow 2 := ⟨tw_1, tw_216, by decide +kernel⟩
def mX7_isBend : js_M := (yX7_isBend, cX7_isBend, 1, some (.boolean), 0, 0)
theorem cm_X7_isBend : js_Cm mX7_isBend 1 := ⟨tw_1, tw_250, by decide +kernel⟩
def mX7_isJustBrought : js_M := (yX7_isJustBrought, cX7_isJustBrought, 3, some (.boolean), 4, 86)
theorem cm_X7_isJustBrought : js_Cm mX7_isJustBrought 1 := ⟨tw_1, tw_761, by decide +kernel⟩
theorem cv_X7_isJustBrought : js_Cv mX7_isJustBrought := ⟨tw_760, tw_sX7_isJustBrought⟩
def mX7_isKind : js_M := (yX7_isKind, cX7_isKind, 1, some (.boolean), 1, 21)
theorem cm_X7_isKind : js_Cm mX7_isKind 1 := ⟨tw_1, tw_213, by decide +kernel⟩
def mX7_isPlace : js_M := (yX7_isPlace, cX7_isPlace, 3, some (.boolean), 1, 21)
theorem cm_X7_isPlace : js_Cm mX7_isPlace 2 := ⟨tw_1, tw_280, by decide +kernel⟩
theorem cv_X7_isPlace : js_Cv mX7_isPlace := ⟨tw_279, tw_sX7_isPlace⟩
def mX7_isSet : js_M := (yX7_isSet, cX7_isSet, 1, some (.boolean), 1, 21)
theorem cm_X7_isSet : js_Cm mX7_isSet 1 := ⟨tw_1, tw_458, by decide +kernel⟩
def mX7_isStrength : js_M := (yX7_isStrength, cX7_isStrength, 1, some (.boolean), 0, 0)
theorem cm_X7_isStrength : js_Cm mX7_isStrength 1 := ⟨tw_1, tw_415, by decide +kernel⟩
def mX7_isVoice : js_M := (yX7_isVoice, cX7_isVoice, 1, some (.boolean), 1, 21)
theorem cm_X7_isVoice : js_Cm mX7_isVoice 1 := ⟨tw_1, tw_336, by decide +kernel⟩
def mX7_isWord : js_M := (yX7_isWord, cX7_isWord, 1, some (.boolean), 1, 21)
theorem cm_X7_isWord : js_Cm mX7_isWord 1 := ⟨tw_1, tw_333, by decide +kernel⟩
def mX7_joined : js_M := (yX7_joined, cX7_joined, 4, some (.int), 1, 21)
theorem cm_X7_joined : js_Cm mX7_joined 1 := ⟨tw_1, tw_485, by decide +kernel⟩
theorem cv_X7_joined : js_Cv mX7_joined := ⟨tw_484, tw_sX7_joined⟩
def mX7_kind : js_M := (yX7_kind, cX7_kind, 7, some (.int), 4, 97)
theorem cm_X7_kind : js_Cm mX7_kind 3 := ⟨tw_1, tw_510, by decide +kernel⟩
theorem cv_X7_kind : js_Cv mX7_kind := ⟨tw_508, tw_509⟩
def mX7_layer : js_M := (yX7_layer, cX7_layer, 5, some (.int), 4, 89)
theorem cm_X7_layer : js_Cm mX7_layer 4 := ⟨tw_1, tw_290, by decide +kernel⟩
theorem cv_X7_layer : js_Cv mX7_layer := ⟨tw_288, tw_289⟩
def mX7_lays : js_M := (yX7_lays, cX7_lays, 8, some (.int), 5, 106)
theorem cm_X7_lays : js_Cm mX7_lays 2 := ⟨tw_1, tw_743, by decide +kernel⟩
theorem cv_X7_lays : js_Cv mX7_lays := ⟨tw_741, tw_742⟩
def mX7_lost : js_M := (yX7_lost, cX7_lost, 5, some (.int), 5, 122)
theorem cm_X7_lost : js_Cm mX7_lost 3 := ⟨tw_1, tw_496, by decide +kernel⟩
theorem cv_X7_lost : js_Cv mX7_lost := ⟨tw_494, tw_495⟩
def mX7_now : js_M := (yX7_now, cX7_now, 2, some (.int), 6, 137)
theorem cm_X7_now : js_Cm mX7_now 1 := ⟨tw_1, tw_394, by decide +kernel⟩
theorem cv_X7_now : js_Cv mX7_now := ⟨tw_392, tw_393⟩
def mX7_of : js_M := (yX7_of, cX7_of, 3, some (.int), 5, 115)
theorem cm_X7_of : js_Cm mX7_of 2 := ⟨tw_1, tw_230, by decide +kernel⟩
theorem cv_X7_of : js_Cv mX7_of := ⟨tw_228, tw_229⟩
def mX7_on : js_M := (yX7_on, cX7_on, 5, some (.int), 5, 122)
theorem cm_X7_on : js_Cm mX7_on 4 := ⟨tw_1, tw_451, by decide +kernel⟩
theorem cv_X7_on : js_Cv mX7_on := ⟨tw_449, tw_450⟩
def mX7_order : js_M := (yX7_order, cX7_order, 5, some (.int), 5, 122)
theorem cm_X7_order : js_Cm mX7_order 4 := ⟨tw_1, tw_443, by decide +kernel⟩
theorem cv_X7_order : js_Cv mX7_order := ⟨tw_441, tw_442⟩
def mX7_reach : js_M := (yX7_reach, cX7_reach, 5, some (.int), 5, 122)
theorem cm_X7_reach : js_Cm mX7_reach 3 := ⟨tw_1, tw_455, by decide +kernel⟩
theorem cv_X7_reach : js_Cv mX7_reach := ⟨tw_453, tw_454⟩
def mX7_read : js_M := (yX7_read, cX7_read, 7, some (.int), 5, 122)
theorem cm_X7_read : js_Cm mX7_read 2 := ⟨tw_1, tw_757, by decide +kernel⟩
theorem cv_X7_read : js_Cv mX7_read := ⟨tw_755, tw_756⟩
def mX7_richest : js_M := (yX7_richest, cX7_richest, 6, some (.int), 4, 92)
theorem cm_X7_richest : js_Cm mX7_richest 1 := ⟨tw_1, tw_531, by decide +kernel⟩
theorem cv_X7_richest : js_Cv mX7_richest := ⟨tw_529, tw_530⟩
def mX7_rises : js_M := (yX7_rises, cX7_rises, 5, some (.int), 2, 47)
theorem cm_X7_rises : js_Cm mX7_rises 3 := ⟨tw_1, tw_330, by decide +kernel⟩
theorem cv_X7_rises : js_Cv mX7_rises := ⟨tw_328, tw_329⟩
def mX7_say : js_M := (yX7_say, cX7_say, 4, some (.int), 4, 96)
theorem cm_X7_say : js_Cm mX7_say 3 := ⟨tw_1, tw_346, by decide +kernel⟩
theorem cv_X7_say : js_Cv mX7_say := ⟨tw_344, tw_345⟩
def mX7_secret : js_M := (yX7_secret, cX7_secret, 6, some (.int), 5, 122)
theorem cm_X7_secret : js_Cm mX7_secret 3 := ⟨tw_1, tw_471, by decide +kernel⟩
theorem cv_X7_secret : js_Cv mX7_secret := ⟨tw_469, tw_470⟩
def mX7_sheet : js_M := (yX7_sheet, cX7_sheet, 4, some (.int), 2, 44)
theorem cm_X7_sheet : js_Cm mX7_sheet 3 := ⟨tw_1, tw_677, by decide +kernel⟩
theorem cv_X7_sheet : js_Cv mX7_sheet := ⟨tw_675, tw_676⟩
def mX7_sheetAndFlueFinding : js_M := (yX7_sheetAndFlueFinding, cX7_sheetAndFlueFinding, 4, some (.int), 4, 83)
theorem cm_X7_sheetAndFlueFinding : js_Cm mX7_sheetAndFlueFinding 2 := ⟨tw_1, tw_747, by decide +kernel⟩
theorem cv_X7_sheetAndFlueFinding : js_Cv mX7_sheetAndFlueFinding := ⟨tw_746, tw_sX7_sheetAndFlueFinding⟩
def mX7_sheetFinding : js_M := (yX7_sheetFinding, cX7_sheetFinding, 2, some (.int), 3, 62)
theorem cm_X7_sheetFinding : js_Cm mX7_sheetFinding 1 := ⟨tw_1, tw_697, by decide +kernel⟩
theorem cv_X7_sheetFinding : js_Cv mX7_sheetFinding := ⟨tw_696, tw_sX7_sheetFinding⟩
def mX7_status : js_M := (yX7_status, cX7_status, 4, some (.int), 1, 22)
theorem cm_X7_status : js_Cm mX7_status 1 := ⟨tw_1, tw_790, by decide +kernel⟩
theorem cv_X7_status : js_Cv mX7_status := ⟨tw_788, tw_789⟩
def mX7_strength : js_M := (yX7_strength, cX7_strength, 5, some (.int), 5, 122)
theorem cm_X7_strength : js_Cm mX7_strength 3 := ⟨tw_1, tw_467, by decide +kernel⟩
theorem cv_X7_strength : js_Cv mX7_strength := ⟨tw_465, tw_466⟩
def mX7_sweep : js_M := (yX7_sweep, cX7_sweep, 4, some (.int), 5, 119)
theorem cm_X7_sweep : js_Cm mX7_sweep 3 := ⟨tw_1, tw_412, by decide +kernel⟩
theorem cv_X7_sweep : js_Cv mX7_sweep := ⟨tw_410, tw_411⟩
def mX7_tear : js_M := (yX7_tear, cX7_tear, 2, some (.int), 0, 0)
theorem cm_X7_tear : js_Cm mX7_tear 0 := ⟨tw_1, tw_778, by decide +kernel⟩
theorem cv_X7_tear : js_Cv mX7_tear := ⟨tw_776, tw_777⟩
def mX7_turn : js_M := (yX7_turn, cX7_turn, 4, some (.int), 2, 43)
theorem cm_X7_turn : js_Cm mX7_turn 2 := ⟨tw_1, tw_308, by decide +kernel⟩
theorem cv_X7_turn : js_Cv mX7_turn := ⟨tw_306, tw_307⟩
def mX7_undo : js_M := (yX7_undo, cX7_undo, 1, some (.int), 2, 61)
theorem cm_X7_undo : js_Cm mX7_undo 0 := ⟨tw_1, tw_774, by decide +kernel⟩
theorem cv_X7_undo : js_Cv mX7_undo := ⟨tw_772, tw_773⟩
def mX7_where : js_M := (yX7_where, cX7_where, 4, some (.int), 5, 115)
theorem cm_X7_where : js_Cm mX7_where 1 := ⟨tw_1, tw_492, by decide +kernel⟩
theorem cv_X7_where : js_Cv mX7_where := ⟨tw_490, tw_491⟩
def mX7_wipe : js_M := (yX7_wipe, cX7_wipe, 2, some (.int), 0, 0)
theorem cm_X7_wipe : js_Cm mX7_wipe 0 := ⟨tw_1, tw_547, by decide +kernel⟩
theorem cv_X7_wipe : js_Cv mX7_wipe := ⟨tw_545, tw_546⟩
def mX7_write : js_M := (yX7_write, cX7_write, 8, some (.long), 4, 88)
theorem cm_X7_write : js_Cm mX7_write 3 := ⟨tw_1, tw_693, by decide +kernel⟩
theorem cv_X7_write : js_Cv mX7_write := ⟨tw_691, tw_692⟩
def mX8_adds : js_M := (yX8_adds, cX8_adds, 4, some (.int), 1, 21)
theorem cm_X8_adds : js_Cm mX8_adds 1 := ⟨tw_8, tw_872, by decide +kernel⟩
theorem cv_X8_adds : js_Cv mX8_adds := ⟨tw_871, tw_sX8_adds⟩
def mX8_areWords : js_M := (yX8_areWords, cX8_areWords, 1, some (.boolean), 1, 25)
theorem cm_X8_areWords : js_Cm mX8_areWords 1 := ⟨tw_8, tw_1077, by decide +kernel⟩
def mX8_as : js_M := (yX8_as, cX8_as, 3, some (.int), 3, 66)
theorem cm_X8_as : js_Cm mX8_as 2 := ⟨tw_8, tw_945, by decide +kernel⟩
theorem cv_X8_as : js_Cv mX8_as := ⟨tw_943, tw_944⟩
def mX8_becomes : js_M := (yX8_becomes, cX8_becomes, 4, some (.int), 0, 0)
theorem cm_X8_becomes : js_Cm mX8_becomes 2 := ⟨tw_8, tw_941, by decide +kernel⟩
theorem cv_X8_becomes : js_Cv mX8_becomes := ⟨tw_940, tw_sX8_becomes⟩
def mX8_bend : js_M := (yX8_bend, cX8_bend, 4, some (.int), 3, 67)
theorem cm_X8_bend : js_Cm mX8_bend 3 := ⟨tw_8, tw_919, by decide +kernel⟩
theorem cv_X8_bend : js_Cv mX8_bend := ⟨tw_917, tw_918⟩
def mX8_best : js_M := (yX8_best, cX8_best, 7, some (.int), 6, 138)
theorem cm_X8_best : js_Cm mX8_best 2 := ⟨tw_8, tw_1118, by decide +kernel⟩
theorem cv_X8_best : js_Cv mX8_best := ⟨tw_1116, tw_1117⟩
def mX8_book : js_M := (yX8_book, cX8_book, 5, some (.int), 4, 93)
theorem cm_X8_book : js_Cm mX8_book 2 := ⟨tw_8, tw_1246, by decide +kernel⟩
theorem cv_X8_book : js_Cv mX8_book := ⟨tw_1244, tw_1245⟩
def mX8_brings : js_M := (yX8_brings, cX8_brings, 7, none, 3, 67)
theorem cm_X8_brings : js_Cm mX8_brings 3 := ⟨tw_8, tw_1054, by decide +kernel⟩
theorem cv_X8_brings : js_Cv mX8_brings := ⟨tw_1053, tw_sX8_brings⟩
def mX8_brought : js_M := (yX8_brought, cX8_brought, 4, some (.int), 5, 118)
theorem cm_X8_brought : js_Cm mX8_brought 3 := ⟨tw_8, tw_1046, by decide +kernel⟩
theorem cv_X8_brought : js_Cv mX8_brought := ⟨tw_1044, tw_1045⟩
def mX8_broughtBy : js_M := (yX8_broughtBy, cX8_broughtBy, 6, some (.int), 4, 93)
theorem cm_X8_broughtBy : js_Cm mX8_broughtBy 3 := ⟨tw_8, tw_1050, by decide +kernel⟩
theorem cv_X8_broughtBy : js_Cv mX8_broughtBy := ⟨tw_1049, tw_sX8_broughtBy⟩
def mX8_byteAt : js_M := (yX8_byteAt, cX8_byteAt, 2, some (.int), 0, 0)
theorem cm_X8_byteAt : js_Cm mX8_byteAt 1 := ⟨tw_8, tw_1146, by decide +kernel⟩
theorem cv_X8_byteAt : js_Cv mX8_byteAt := ⟨tw_1145, tw_sX8_byteAt⟩
def mX8_cake : js_M := (yX8_cake, cX8_cake, 6, some (.int), 2, 46)
theorem cm_X8_cake : js_Cm mX8_cake 4 := ⟨tw_8, tw_993, by decide +kernel⟩
theorem cv_X8_cake : js_Cv mX8_cake := ⟨tw_991, tw_992⟩
def mX8_cakeAll : js_M := (yX8_cakeAll, cX8_cakeAll, 3, some (.int), 1, 24)
theorem cm_X8_cakeAll : js_Cm mX8_cakeAll 0 := ⟨tw_8, tw_1027, by decide +kernel⟩
theorem cv_X8_cakeAll : js_Cv mX8_cakeAll := ⟨tw_1026, tw_sX8_cakeAll⟩
def mX8_cakes : js_M := (yX8_cakes, cX8_cakes, 3, some (.int), 1, 21)
theorem cm_X8_cakes : js_Cm mX8_cakes 1 := ⟨tw_8, tw_915, by decide +kernel⟩
theorem cv_X8_cakes : js_Cv mX8_cakes := ⟨tw_914, tw_sX8_cakes⟩
def mX8_copy : js_M := (yX8_copy, cX8_copy, 7, some (.int), 2, 45)
theorem cm_X8_copy : js_Cm mX8_copy 5 := ⟨tw_8, tw_1234, by decide +kernel⟩
theorem cv_X8_copy : js_Cv mX8_copy := ⟨tw_1232, tw_1233⟩
def mX8_count : js_M := (yX8_count, cX8_count, 2, some (.int), 4, 87)
theorem cm_X8_count : js_Cm mX8_count 1 := ⟨tw_8, tw_1271, by decide +kernel⟩
theorem cv_X8_count : js_Cv mX8_count := ⟨tw_1269, tw_1270⟩
def mX8_covers : js_M := (yX8_covers, cX8_covers, 6, some (.int), 4, 89)
theorem cm_X8_covers : js_Cm mX8_covers 3 := ⟨tw_8, tw_1106, by decide +kernel⟩
theorem cv_X8_covers : js_Cv mX8_covers := ⟨tw_1104, tw_1105⟩
def mX8_damp : js_M := (yX8_damp, cX8_damp, 2, some (.int), 1, 25)
theorem cm_X8_damp : js_Cm mX8_damp 1 := ⟨tw_8, tw_953, by decide +kernel⟩
theorem cv_X8_damp : js_Cv mX8_damp := ⟨tw_951, tw_952⟩
def mX8_day : js_M := (yX8_day, cX8_day, 5, none, 2, 43)
theorem cm_X8_day : js_Cm mX8_day 0 := ⟨tw_8, tw_1007, by decide +kernel⟩
theorem cv_X8_day : js_Cv mX8_day := ⟨tw_1006, tw_sX8_day⟩
def mX8_days : js_M := (yX8_days, cX8_days, 2, some (.int), 4, 89)
theorem cm_X8_days : js_Cm mX8_days 1 := ⟨tw_8, tw_997, by decide +kernel⟩
theorem cv_X8_days : js_Cv mX8_days := ⟨tw_995, tw_996⟩
def mX8_emptyBends : js_M := (yX8_emptyBends, cX8_emptyBends, 4, some (.int), 2, 43)
theorem cm_X8_emptyBends : js_Cm mX8_emptyBends 1 := ⟨tw_8, tw_911, by decide +kernel⟩
theorem cv_X8_emptyBends : js_Cv mX8_emptyBends := ⟨tw_910, tw_sX8_emptyBends⟩
def mX8_feed : js_M := (yX8_feed, cX8_feed, 4, some (.int), 1, 25)
theorem cm_X8_feed : js_Cm mX8_feed 2 := ⟨tw_8, tw_1126, by decide +kernel⟩
theorem cv_X8_feed : js_Cv mX8_feed := ⟨tw_1124, tw_1125⟩
def mX8_fewest : js_M := (yX8_fewest, cX8_fewest, 7, some (.int), 5, 118)
theorem cm_X8_fewest : js_Cm mX8_fewest 2 := ⟨tw_8, tw_1090, by decide +kernel⟩
theorem cv_X8_fewest : js_Cv mX8_fewest := ⟨tw_1088, tw_1089⟩
def mX8_finds : js_M := (yX8_finds, cX8_finds, 2, some (.int), 0, 0)
theorem cm_X8_finds : js_Cm mX8_finds 1 := ⟨tw_8, tw_867, by decide +kernel⟩
theorem cv_X8_finds : js_Cv mX8_finds := ⟨tw_866, tw_sX8_finds⟩
def mX8_flue : js_M := (yX8_flue, cX8_flue, 2, some (.int), 2, 45)
theorem cm_X8_flue : js_Cm mX8_flue 1 := ⟨tw_8, tw_855, by decide +kernel⟩
theorem cv_X8_flue : js_Cv mX8_flue := ⟨tw_853, tw_854⟩
def mX8_flueItem : js_M := (yX8_flueItem, cX8_flueItem, 3, none, 4, 88)
theorem cm_X8_flueItem : js_Cm mX8_flueItem 1 := ⟨tw_8, tw_1180, by decide +kernel⟩
theorem cv_X8_flueItem : js_Cv mX8_flueItem := ⟨tw_1179, tw_sX8_flueItem⟩
def mX8_fullOnes : js_M := (yX8_fullOnes, cX8_fullOnes, 3, some (.int), 3, 65)
theorem cm_X8_fullOnes : js_Cm mX8_fullOnes 0 := ⟨tw_8, tw_1275, by decide +kernel⟩
theorem cv_X8_fullOnes : js_Cv mX8_fullOnes := ⟨tw_1274, tw_sX8_fullOnes⟩
def mX8_goesOn : js_M := (yX8_goesOn, cX8_goesOn, 3, none, 3, 67)
theorem cm_X8_goesOn : js_Cm mX8_goesOn 1 := ⟨tw_8, tw_1003, by decide +kernel⟩
theorem cv_X8_goesOn : js_Cv mX8_goesOn := ⟨tw_1002, tw_sX8_goesOn⟩
def mX8_holds : js_M := (yX8_holds, cX8_holds, 3, some (.int), 1, 21)
theorem cm_X8_holds : js_Cm mX8_holds 2 := ⟨tw_8, tw_928, by decide +kernel⟩
theorem cv_X8_holds : js_Cv mX8_holds := ⟨tw_927, tw_sX8_holds⟩
def mX8_house : js_M := (yX8_house, cX8_house, 2, some (.int), 8, 183)
theorem cm_X8_house : js_Cm mX8_house 0 := ⟨tw_8, tw_1134, by decide +kernel⟩
theorem cv_X8_house : js_Cv mX8_house := ⟨tw_1132, tw_1133⟩
def mX8_image : js_M := (yX8_image, cX8_image, 2, some (.int), 0, 0)
theorem cm_X8_image : js_Cm mX8_image 0 := ⟨tw_8, tw_1259, by decide +kernel⟩
theorem cv_X8_image : js_Cv mX8_image := ⟨tw_1257, tw_1258⟩
def mX8_in : js_M := (yX8_in, cX8_in, 6, some (.boolean), 0, 0)
theorem cm_X8_in : js_Cm mX8_in 3 := ⟨tw_8, tw_862, by decide +kernel⟩
def mX8_isBend : js_M := (yX8_isBend, cX8_isBend, 1, some (.boolean), 1, 25)
theorem cm_X8_isBend : js_Cm mX8_isBend 1 := ⟨tw_8, tw_922, by decide +kernel⟩
def mX8_isBook : js_M := (yX8_isBook, cX8_isBook, 4, some (.boolean), 0, 0)
theorem cm_X8_isBook : js_Cm mX8_isBook 1 := ⟨tw_8, tw_1255, by decide +kernel⟩
theorem cv_X8_isBook : js_Cv mX8_isBook := ⟨tw_1254, tw_sX8_isBook⟩
def mX8_isBrush : js_M := (yX8_isBrush, cX8_isBrush, 4, some (.boolean), 2, 46)
theorem cm_X8_isBrush : js_Cm mX8_isBrush 3 := ⟨tw_8, tw_1035, by decide +kernel⟩
theorem cv_X8_isBrush : js_Cv mX8_isBrush := ⟨tw_1034, tw_sX8_isBrush⟩
def mX8_isDigit : js_M := (yX8_isDigit, cX8_isDigit, 1, some (.boolean), 1, 25)
theorem cm_X8_isDigit : js_Cm mX8_isDigit 1 := ⟨tw_8, tw_1154, by decide +kernel⟩
def mX8_isFlue : js_M := (yX8_isFlue, cX8_isFlue, 2, some (.boolean), 1, 25)
theorem cm_X8_isFlue : js_Cm mX8_isFlue 1 := ⟨tw_8, tw_883, by decide +kernel⟩
theorem cv_X8_isFlue : js_Cv mX8_isFlue := ⟨tw_882, tw_sX8_isFlue⟩
def mX8_isFull : js_M := (yX8_isFull, cX8_isFull, 3, some (.boolean), 2, 43)
theorem cm_X8_isFull : js_Cm mX8_isFull 2 := ⟨tw_8, tw_985, by decide +kernel⟩
theorem cv_X8_isFull : js_Cv mX8_isFull := ⟨tw_984, tw_sX8_isFull⟩
def mX8_isKind : js_M := (yX8_isKind, cX8_isKind, 1, some (.boolean), 1, 25)
theorem cm_X8_isKind : js_Cm mX8_isKind 1 := ⟨tw_8, tw_858, by decide +kernel⟩
def mX8_isLetter : js_M := (yX8_isLetter, cX8_isLetter, 1, some (.boolean), 1, 25)
theorem cm_X8_isLetter : js_Cm mX8_isLetter 1 := ⟨tw_8, tw_1149, by decide +kernel⟩
def mX8_isOne : js_M := (yX8_isOne, cX8_isOne, 1, some (.boolean), 1, 25)
theorem cm_X8_isOne : js_Cm mX8_isOne 1 := ⟨tw_8, tw_1216, by decide +kernel⟩
def mX8_isStrength : js_M := (yX8_isStrength, cX8_isStrength, 1, some (.boolean), 1, 25)
theorem cm_X8_isStrength : js_Cm mX8_isStrength 1 := ⟨tw_8, tw_1038, by decide +kernel⟩
def mX8_isUnder : js_M := (yX8_isUnder, cX8_isUnder, 2, some (.boolean), 0, 0)
theorem cm_X8_isUnder : js_Cm mX8_isUnder 2 := ⟨tw_8, tw_948, by decide +kernel⟩
def mX8_isVoice : js_M := (yX8_isVoice, cX8_isVoice, 1, some (.boolean), 1, 25)
theorem cm_X8_isVoice : js_Cm mX8_isVoice 1 := ⟨tw_8, tw_965, by decide +kernel⟩
def mX8_isWord : js_M := (yX8_isWord, cX8_isWord, 1, some (.boolean), 1, 25)
theorem cm_X8_isWord : js_Cm mX8_isWord 1 := ⟨tw_8, tw_961, by decide +kernel⟩
def mX8_item : js_M := (yX8_item, cX8_item, 4, none, 7, 160)
theorem cm_X8_item : js_Cm mX8_item 0 := ⟨tw_8, tw_1160, by decide +kernel⟩
theorem cv_X8_item : js_Cv mX8_item := ⟨tw_1159, tw_sX8_item⟩
def mX8_kind : js_M := (yX8_kind, cX8_kind, 9, some (.int), 6, 138)
theorem cm_X8_kind : js_Cm mX8_kind 3 := ⟨tw_8, tw_1110, by decide +kernel⟩
theorem cv_X8_kind : js_Cv mX8_kind := ⟨tw_1108, tw_1109⟩
def mX8_kindHere : js_M := (yX8_kindHere, cX8_kindHere, 3, some (.int), 3, 68)
theorem cm_X8_kindHere : js_Cm mX8_kindHere 0 := ⟨tw_8, tw_1164, by decide +kernel⟩
theorem cv_X8_kindHere : js_Cv mX8_kindHere := ⟨tw_1163, tw_sX8_kindHere⟩
def mX8_kindOf : js_M := (yX8_kindOf, cX8_kindOf, 2, some (.int), 0, 0)
theorem cm_X8_kindOf : js_Cm mX8_kindOf 1 := ⟨tw_8, tw_888, by decide +kernel⟩
theorem cv_X8_kindOf : js_Cv mX8_kindOf := ⟨tw_887, tw_sX8_kindOf⟩
def mX8_lands : js_M := (yX8_lands, cX8_lands, 5, some (.int), 3, 65)
theorem cm_X8_lands : js_Cm mX8_lands 3 := ⟨tw_8, tw_981, by decide +kernel⟩
theorem cv_X8_lands : js_Cv mX8_lands := ⟨tw_980, tw_sX8_lands⟩
def mX8_layer : js_M := (yX8_layer, cX8_layer, 5, some (.int), 2, 46)
theorem cm_X8_layer : js_Cm mX8_layer 4 := ⟨tw_8, tw_932, by decide +kernel⟩
theorem cv_X8_layer : js_Cv mX8_layer := ⟨tw_930, tw_931⟩
def mX8_layerItem : js_M := (yX8_layerItem, cX8_layerItem, 5, none, 6, 136)
theorem cm_X8_layerItem : js_Cm mX8_layerItem 0 := ⟨tw_8, tw_1203, by decide +kernel⟩
theorem cv_X8_layerItem : js_Cv mX8_layerItem := ⟨tw_1202, tw_sX8_layerItem⟩
def mX8_layers : js_M := (yX8_layers, cX8_layers, 3, some (.int), 1, 21)
theorem cm_X8_layers : js_Cm mX8_layers 2 := ⟨tw_8, tw_896, by decide +kernel⟩
theorem cv_X8_layers : js_Cv mX8_layers := ⟨tw_895, tw_sX8_layers⟩
def mX8_layersAll : js_M := (yX8_layersAll, cX8_layersAll, 3, some (.int), 3, 66)
theorem cm_X8_layersAll : js_Cm mX8_layersAll 0 := ⟨tw_8, tw_1019, by decide +kernel⟩
theorem cv_X8_layersAll : js_Cv mX8_layersAll := ⟨tw_1018, tw_sX8_layersAll⟩
def mX8_layersOf : js_M := (yX8_layersOf, cX8_layersOf, 4, some (.int), 2, 43)
theorem cm_X8_layersOf : js_Cm mX8_layersOf 1 := ⟨tw_8, tw_892, by decide +kernel⟩
theorem cv_X8_layersOf : js_Cv mX8_layersOf := ⟨tw_891, tw_sX8_layersOf⟩
def mX8_lays : js_M := (yX8_lays, cX8_lays, 7, some (.int), 5, 113)
theorem cm_X8_lays : js_Cm mX8_lays 2 := ⟨tw_8, tw_1238, by decide +kernel⟩
theorem cv_X8_lays : js_Cv mX8_lays := ⟨tw_1236, tw_1237⟩
def mX8_laysAside : js_M := (yX8_laysAside, cX8_laysAside, 2, none, 0, 0)
theorem cm_X8_laysAside : js_Cm mX8_laysAside 0 := ⟨tw_8, tw_1066, by decide +kernel⟩
theorem cv_X8_laysAside : js_Cv mX8_laysAside := ⟨tw_1065, tw_sX8_laysAside⟩
def mX8_lies : js_M := (yX8_lies, cX8_lies, 6, none, 2, 43)
theorem cm_X8_lies : js_Cm mX8_lies 4 := ⟨tw_8, tw_989, by decide +kernel⟩
theorem cv_X8_lies : js_Cv mX8_lies := ⟨tw_988, tw_sX8_lies⟩
def mX8_loose : js_M := (yX8_loose, cX8_loose, 5, some (.int), 2, 43)
theorem cm_X8_loose : js_Cm mX8_loose 3 := ⟨tw_8, tw_1042, by decide +kernel⟩
theorem cv_X8_loose : js_Cv mX8_loose := ⟨tw_1041, tw_sX8_loose⟩
def mX8_lost : js_M := (yX8_lost, cX8_lost, 6, some (.int), 5, 118)
theorem cm_X8_lost : js_Cm mX8_lost 3 := ⟨tw_8, tw_1102, by decide +kernel⟩
theorem cv_X8_lost : js_Cv mX8_lost := ⟨tw_1100, tw_1101⟩
def mX8_must : js_M := (yX8_must, cX8_must, 2, none, 3, 67)
theorem cm_X8_must : js_Cm mX8_must 1 := ⟨tw_8, tw_1184, by decide +kernel⟩
theorem cv_X8_must : js_Cv mX8_must := ⟨tw_1183, tw_sX8_must⟩
def mX8_narrowed : js_M := (yX8_narrowed, cX8_narrowed, 3, some (.long), 0, 0)
theorem cm_X8_narrowed : js_Cm mX8_narrowed 2 := ⟨tw_8, tw_1230, by decide +kernel⟩
def mX8_now : js_M := (yX8_now, cX8_now, 2, some (.int), 5, 112)
theorem cm_X8_now : js_Cm mX8_now 1 := ⟨tw_8, tw_1015, by decide +kernel⟩
theorem cv_X8_now : js_Cv mX8_now := ⟨tw_1013, tw_1014⟩
def mX8_number : js_M := (yX8_number, cX8_number, 6, none, 4, 88)
theorem cm_X8_number : js_Cm mX8_number 2 := ⟨tw_8, tw_1193, by decide +kernel⟩
theorem cv_X8_number : js_Cv mX8_number := ⟨tw_1192, tw_sX8_number⟩
def mX8_of : js_M := (yX8_of, cX8_of, 3, some (.int), 4, 90)
theorem cm_X8_of : js_Cm mX8_of 2 := ⟨tw_8, tw_879, by decide +kernel⟩
theorem cv_X8_of : js_Cv mX8_of := ⟨tw_877, tw_878⟩
def mX8_on : js_M := (yX8_on, cX8_on, 5, some (.int), 4, 93)
theorem cm_X8_on : js_Cm mX8_on 4 := ⟨tw_8, tw_1062, by decide +kernel⟩
theorem cv_X8_on : js_Cv mX8_on := ⟨tw_1060, tw_1061⟩
def mX8_ones : js_M := (yX8_ones, cX8_ones, 3, some (.int), 0, 0)
theorem cm_X8_ones : js_Cm mX8_ones 1 := ⟨tw_8, tw_1094, by decide +kernel⟩
def mX8_order : js_M := (yX8_order, cX8_order, 5, some (.int), 4, 93)
theorem cm_X8_order : js_Cm mX8_order 4 := ⟨tw_8, tw_1058, by decide +kernel⟩
theorem cv_X8_order : js_Cv mX8_order := ⟨tw_1056, tw_1057⟩
def mX8_perhaps : js_M := (yX8_perhaps, cX8_perhaps, 4, some (.int), 5, 113)
theorem cm_X8_perhaps : js_Cm mX8_perhaps 2 := ⟨tw_8, tw_1198, by decide +kernel⟩
theorem cv_X8_perhaps : js_Cv mX8_perhaps := ⟨tw_1197, tw_sX8_perhaps⟩
def mX8_place : js_M := (yX8_place, cX8_place, 2, some (.int), 0, 0)
theorem cm_X8_place : js_Cm mX8_place 2 := ⟨tw_8, tw_875, by decide +kernel⟩
def mX8_putsBack : js_M := (yX8_putsBack, cX8_putsBack, 2, none, 0, 0)
theorem cm_X8_putsBack : js_Cm mX8_putsBack 0 := ⟨tw_8, tw_1209, by decide +kernel⟩
theorem cv_X8_putsBack : js_Cv mX8_putsBack := ⟨tw_1208, tw_sX8_putsBack⟩
def mX8_reach : js_M := (yX8_reach, cX8_reach, 5, some (.int), 5, 118)
theorem cm_X8_reach : js_Cm mX8_reach 3 := ⟨tw_8, tw_1074, by decide +kernel⟩
theorem cv_X8_reach : js_Cv mX8_reach := ⟨tw_1072, tw_1073⟩
def mX8_read : js_M := (yX8_read, cX8_read, 6, some (.int), 4, 93)
theorem cm_X8_read : js_Cm mX8_read 2 := ⟨tw_8, tw_1251, by decide +kernel⟩
theorem cv_X8_read : js_Cv mX8_read := ⟨tw_1249, tw_1250⟩
def mX8_richest : js_M := (yX8_richest, cX8_richest, 6, some (.int), 3, 67)
theorem cm_X8_richest : js_Cm mX8_richest 1 := ⟨tw_8, tw_1122, by decide +kernel⟩
theorem cv_X8_richest : js_Cv mX8_richest := ⟨tw_1120, tw_1121⟩
def mX8_rise : js_M := (yX8_rise, cX8_rise, 7, some (.int), 1, 21)
theorem cm_X8_rise : js_Cm mX8_rise 3 := ⟨tw_8, tw_969, by decide +kernel⟩
theorem cv_X8_rise : js_Cv mX8_rise := ⟨tw_968, tw_sX8_rise⟩
def mX8_rises : js_M := (yX8_rises, cX8_rises, 5, some (.int), 2, 47)
theorem cm_X8_rises : js_Cm mX8_rises 3 := ⟨tw_8, tw_958, by decide +kernel⟩
theorem cv_X8_rises : js_Cv mX8_rises := ⟨tw_956, tw_957⟩
def mX8_saves : js_M := (yX8_saves, cX8_saves, 2, none, 0, 0)
theorem cm_X8_saves : js_Cm mX8_saves 0 := ⟨tw_8, tw_1138, by decide +kernel⟩
theorem cv_X8_saves : js_Cv mX8_saves := ⟨tw_1137, tw_sX8_saves⟩
def mX8_say : js_M := (yX8_say, cX8_say, 4, some (.int), 5, 113)
theorem cm_X8_say : js_Cm mX8_say 3 := ⟨tw_8, tw_973, by decide +kernel⟩
theorem cv_X8_say : js_Cv mX8_say := ⟨tw_971, tw_972⟩
def mX8_sayItem : js_M := (yX8_sayItem, cX8_sayItem, 5, none, 6, 136)
theorem cm_X8_sayItem : js_Cm mX8_sayItem 0 := ⟨tw_8, tw_1189, by decide +kernel⟩
theorem cv_X8_sayItem : js_Cv mX8_sayItem := ⟨tw_1188, tw_sX8_sayItem⟩
def mX8_says : js_M := (yX8_says, cX8_says, 5, some (.int), 4, 89)
theorem cm_X8_says : js_Cm mX8_says 3 := ⟨tw_8, tw_977, by decide +kernel⟩
theorem cv_X8_says : js_Cv mX8_says := ⟨tw_976, tw_sX8_says⟩
def mX8_saysAll : js_M := (yX8_saysAll, cX8_saysAll, 6, some (.int), 5, 113)
theorem cm_X8_saysAll : js_Cm mX8_saysAll 3 := ⟨tw_8, tw_1114, by decide +kernel⟩
theorem cv_X8_saysAll : js_Cv mX8_saysAll := ⟨tw_1113, tw_sX8_saysAll⟩
def mX8_secret : js_M := (yX8_secret, cX8_secret, 6, some (.int), 5, 118)
theorem cm_X8_secret : js_Cm mX8_secret 3 := ⟨tw_8, tw_1086, by decide +kernel⟩
theorem cv_X8_secret : js_Cv mX8_secret := ⟨tw_1084, tw_1085⟩
def mX8_sheet : js_M := (yX8_sheet, cX8_sheet, 5, some (.int), 2, 45)
theorem cm_X8_sheet : js_Cm mX8_sheet 3 := ⟨tw_8, tw_1213, by decide +kernel⟩
theorem cv_X8_sheet : js_Cv mX8_sheet := ⟨tw_1211, tw_1212⟩
def mX8_spot : js_M := (yX8_spot, cX8_spot, 3, some (.int), 1, 21)
theorem cm_X8_spot : js_Cm mX8_spot 3 := ⟨tw_8, tw_907, by decide +kernel⟩
def mX8_status : js_M := (yX8_status, cX8_status, 4, some (.int), 1, 25)
theorem cm_X8_status : js_Cm mX8_status 1 := ⟨tw_8, tw_1279, by decide +kernel⟩
theorem cv_X8_status : js_Cv mX8_status := ⟨tw_1277, tw_1278⟩
def mX8_strength : js_M := (yX8_strength, cX8_strength, 5, some (.int), 5, 118)
theorem cm_X8_strength : js_Cm mX8_strength 3 := ⟨tw_8, tw_1082, by decide +kernel⟩
theorem cv_X8_strength : js_Cv mX8_strength := ⟨tw_1080, tw_1081⟩
def mX8_sweep : js_M := (yX8_sweep, cX8_sweep, 7, some (.int), 3, 69)
theorem cm_X8_sweep : js_Cm mX8_sweep 3 := ⟨tw_8, tw_1031, by decide +kernel⟩
theorem cv_X8_sweep : js_Cv mX8_sweep := ⟨tw_1029, tw_1030⟩
def mX8_takesBack : js_M := (yX8_takesBack, cX8_takesBack, 3, some (.int), 0, 0)
theorem cm_X8_takesBack : js_Cm mX8_takesBack 1 := ⟨tw_8, tw_1070, by decide +kernel⟩
theorem cv_X8_takesBack : js_Cv mX8_takesBack := ⟨tw_1069, tw_sX8_takesBack⟩
def mX8_tear : js_M := (yX8_tear, cX8_tear, 2, some (.int), 0, 0)
theorem cm_X8_tear : js_Cm mX8_tear 0 := ⟨tw_8, tw_1267, by decide +kernel⟩
theorem cv_X8_tear : js_Cv mX8_tear := ⟨tw_1265, tw_1266⟩
def mX8_token : js_M := (yX8_token, cX8_token, 3, none, 2, 45)
theorem cm_X8_token : js_Cm mX8_token 0 := ⟨tw_8, tw_1142, by decide +kernel⟩
theorem cv_X8_token : js_Cv mX8_token := ⟨tw_1141, tw_sX8_token⟩
def mX8_turn : js_M := (yX8_turn, cX8_turn, 3, some (.int), 2, 46)
theorem cm_X8_turn : js_Cm mX8_turn 2 := ⟨tw_8, tw_937, by decide +kernel⟩
theorem cv_X8_turn : js_Cv mX8_turn := ⟨tw_935, tw_936⟩
def mX8_undo : js_M := (yX8_undo, cX8_undo, 2, some (.int), 1, 21)
theorem cm_X8_undo : js_Cm mX8_undo 0 := ⟨tw_8, tw_1263, by decide +kernel⟩
theorem cv_X8_undo : js_Cv mX8_undo := ⟨tw_1261, tw_1262⟩
def mX8_where : js_M := (yX8_where, cX8_where, 4, some (.int), 4, 90)
theorem cm_X8_where : js_Cm mX8_where 1 := ⟨tw_8, tw_1098, by decide +kernel⟩
theorem cv_X8_where : js_Cv mX8_where := ⟨tw_1096, tw_1097⟩
def mX8_wipe : js_M := (yX8_wipe, cX8_wipe, 2, some (.int), 0, 0)
theorem cm_X8_wipe : js_Cm mX8_wipe 0 := ⟨tw_8, tw_1130, by decide +kernel⟩
theorem cv_X8_wipe : js_Cv mX8_wipe := ⟨tw_1128, tw_1129⟩
def mX8_withCake : js_M := (yX8_withCake, cX8_withCake, 5, some (.int), 0, 0)
theorem cm_X8_withCake : js_Cm mX8_withCake 1 := ⟨tw_8, tw_1011, by decide +kernel⟩
theorem cv_X8_withCake : js_Cv mX8_withCake := ⟨tw_1010, tw_sX8_withCake⟩
def mX8_word : js_M := (yX8_word, cX8_word, 4, some (.long), 2, 45)
theorem cm_X8_word : js_Cm mX8_word 0 := ⟨tw_8, tw_1168, by decide +kernel⟩
theorem cv_X8_word : js_Cv mX8_word := ⟨tw_1167, tw_sX8_word⟩
def mX8_wordsAll : js_M := (yX8_wordsAll, cX8_wordsAll, 3, some (.int), 4, 90)
theorem cm_X8_wordsAll : js_Cm mX8_wordsAll 0 := ⟨tw_8, tw_1023, by decide +kernel⟩
theorem cv_X8_wordsAll : js_Cv mX8_wordsAll := ⟨tw_1022, tw_sX8_wordsAll⟩
def mX8_wordsAt : js_M := (yX8_wordsAt, cX8_wordsAt, 5, some (.int), 2, 43)
theorem cm_X8_wordsAt : js_Cm mX8_wordsAt 2 := ⟨tw_8, tw_904, by decide +kernel⟩
theorem cv_X8_wordsAt : js_Cv mX8_wordsAt := ⟨tw_903, tw_sX8_wordsAt⟩
def mX8_wordsOf : js_M := (yX8_wordsOf, cX8_wordsOf, 4, some (.int), 3, 67)
theorem cm_X8_wordsOf : js_Cm mX8_wordsOf 1 := ⟨tw_8, tw_900, by decide +kernel⟩
theorem cv_X8_wordsOf : js_Cv mX8_wordsOf := ⟨tw_899, tw_sX8_wordsOf⟩
def mX8_write : js_M := (yX8_write, cX8_write, 8, some (.long), 3, 66)
theorem cm_X8_write : js_Cm mX8_write 3 := ⟨tw_8, tw_1222, by decide +kernel⟩
theorem cv_X8_write : js_Cv mX8_write := ⟨tw_1220, tw_1221⟩
def mX8_wrongFlue : js_M := (yX8_wrongFlue, cX8_wrongFlue, 4, some (.int), 3, 66)
theorem cm_X8_wrongFlue : js_Cm mX8_wrongFlue 2 := ⟨tw_8, tw_1242, by decide +kernel⟩
theorem cv_X8_wrongFlue : js_Cv mX8_wrongFlue := ⟨tw_1241, tw_sX8_wrongFlue⟩
def mX8_wrongSheet : js_M := (yX8_wrongSheet, cX8_wrongSheet, 2, some (.int), 2, 45)
theorem cm_X8_wrongSheet : js_Cm mX8_wrongSheet 1 := ⟨tw_8, tw_1226, by decide +kernel⟩
theorem cv_X8_wrongSheet : js_Cv mX8_wrongSheet := ⟨tw_1225, tw_sX8_wrongSheet⟩
theorem fl_X7_10 : js_Fl RX7 10 6 0 := ⟨RX7, TX7, 10, rfl, by decide, iX7, tw_176⟩
theorem fl_X7_16 : js_Fl RX7 16 6 1 := ⟨RX7, TX7, 10, rfl, by decide, iX7, tw_177⟩
theorem fl_X7_19 : js_Fl RX7 19 6 2 := ⟨RX7, TX7, 10, rfl, by decide, iX7, tw_178⟩
theorem fp_X7_19 : js_Fp RX7 19 6 2 .boolean := ⟨RX7, TX7, 10, tyX7, rfl, by decide, iX7, tw_178, tyX7_ok, nmX7, rfl, by decide +kernel⟩
theorem fl_X7_26 : js_Fl RX7 26 6 3 := ⟨RX7, TX7, 10, rfl, by decide, iX7, tw_179⟩
theorem fl_X7_33 : js_Fl RX7 33 6 4 := ⟨RX7, TX7, 10, rfl, by decide, iX7, tw_180⟩
theorem fl_X7_40 : js_Fl RX7 40 6 5 := ⟨RX7, TX7, 10, rfl, by decide, iX7, tw_181⟩
theorem fl_X7_47 : js_Fl RX7 47 6 6 := ⟨RX7, TX7, 10, rfl, by decide, iX7, tw_182⟩
theorem fl_X7_54 : js_Fl RX7 54 6 7 := ⟨RX7, TX7, 10, rfl, by decide, iX7, tw_183⟩
theorem fl_X7_58 : js_Fl RX7 58 6 8 := ⟨RX7, TX7, 10, rfl, by decide, iX7, tw_184⟩
theorem fl_X7_62 : js_Fl RX7 62 6 9 := ⟨RX7, TX7, 10, rfl, by decide, iX7, tw_185⟩
theorem fl_X7_74 : js_Fl RX7 74 2 2 := ⟨RX3, TX3, 7, rfl, by decide, iX3, tw_40⟩
theorem fl_X7_97 : js_Fl RX7 97 2 1 := ⟨RX3, TX3, 7, rfl, by decide, iX3, tw_36⟩
theorem fp_X7_97 : js_Fp RX7 97 2 1 .int := ⟨RX3, TX3, 7, tyX3, rfl, by decide, iX3, tw_36, tyX3_ok, nmX3, rfl, by decide +kernel⟩
theorem fl_X7_148 : js_Fl RX7 148 2 0 := ⟨RX3, TX3, 7, rfl, by decide, iX3, tw_33⟩
theorem fl_X7_190 : js_Fl RX7 190 0 1 := ⟨RX0, TX0, 3, rfl, by decide, iX0, tw_70⟩
theorem fl_X7_193 : js_Fl RX7 193 0 0 := ⟨RX0, TX0, 3, rfl, by decide, iX0, tw_68⟩
theorem fl_X7_225 : js_Fl RX7 225 5 0 := ⟨RX6, TX6, 3, rfl, by decide, iX6, tw_86⟩
theorem fl_X7_228 : js_Fl RX7 228 5 1 := ⟨RX6, TX6, 3, rfl, by decide, iX6, tw_88⟩
theorem fl_X7_237 : js_Fl RX7 237 3 0 := ⟨RX4, TX4, 6, rfl, by decide, iX4, tw_104⟩
theorem fp_X7_237 : js_Fp RX7 237 3 0 .int := ⟨RX4, TX4, 6, tyX4, rfl, by decide, iX4, tw_104, tyX4_ok, nmX4, rfl, by decide +kernel⟩
theorem fl_X0_9 : js_Fl RX0 9 0 0 := ⟨RX0, TX0, 3, rfl, by decide, iX0, tw_67⟩
theorem fp_X0_9 : js_Fp RX0 9 0 0 .int := ⟨RX0, TX0, 3, tyX0, rfl, by decide, iX0, tw_67, tyX0_ok, nmX0, rfl, by decide +kernel⟩
theorem fl_X0_15 : js_Fl RX0 15 0 1 := ⟨RX0, TX0, 3, rfl, by decide, iX0, tw_69⟩
theorem fp_X0_15 : js_Fp RX0 15 0 1 .int := ⟨RX0, TX0, 3, tyX0, rfl, by decide, iX0, tw_69, tyX0_ok, nmX0, rfl, by decide +kernel⟩
theorem fl_X0_18 : js_Fl RX0 18 0 2 := ⟨RX0, TX0, 3, rfl, by decide, iX0, tw_71⟩
theorem fl_X0_28 : js_Fl RX0 28 2 1 := ⟨RX3, TX3, 7, rfl, by decide, iX3, tw_35⟩
theorem fl_X2_9 : js_Fl RX2 9 1 0 := ⟨RX2, TX2, 3, rfl, by decide, iX2, tw_165⟩
theorem fl_X2_13 : js_Fl RX2 13 1 1 := ⟨RX2, TX2, 3, rfl, by decide, iX2, tw_166⟩
theorem fl_X2_16 : js_Fl RX2 16 1 2 := ⟨RX2, TX2, 3, rfl, by decide, iX2, tw_167⟩
theorem fl_X3_9 : js_Fl RX3 9 2 0 := ⟨RX3, TX3, 7, rfl, by decide, iX3, tw_31⟩
theorem fp_X3_9 : js_Fp RX3 9 2 0 .int := ⟨RX3, TX3, 7, tyX3, rfl, by decide, iX3, tw_31, tyX3_ok, nmX3, rfl, by decide +kernel⟩
theorem fl_X3_15 : js_Fl RX3 15 2 1 := ⟨RX3, TX3, 7, rfl, by decide, iX3, tw_34⟩
theorem fp_X3_15 : js_Fp RX3 15 2 1 .int := ⟨RX3, TX3, 7, tyX3, rfl, by decide, iX3, tw_34, tyX3_ok, nmX3, rfl, by decide +kernel⟩
theorem fl_X3_18 : js_Fl RX3 18 2 2 := ⟨RX3, TX3, 7, rfl, by decide, iX3, tw_38⟩
theorem fp_X3_18 : js_Fp RX3 18 2 2 .int := ⟨RX3, TX3, 7, tyX3, rfl, by decide, iX3, tw_38, tyX3_ok, nmX3, rfl, by decide +kernel⟩
theorem fl_X3_21 : js_Fl RX3 21 2 3 := ⟨RX3, TX3, 7, rfl, by decide, iX3, tw_41⟩
theorem fl_X3_25 : js_Fl RX3 25 2 4 := ⟨RX3, TX3, 7, rfl, by decide, iX3, tw_42⟩
theorem fl_X3_28 : js_Fl RX3 28 2 5 := ⟨RX3, TX3, 7, rfl, by decide, iX3, tw_43⟩
theorem fl_X3_31 : js_Fl RX3 31 2 6 := ⟨RX3, TX3, 7, rfl, by decide, iX3, tw_44⟩
theorem fl_X4_7 : js_Fl RX4 7 3 0 := ⟨RX4, TX4, 6, rfl, by decide, iX4, tw_103⟩
theorem fp_X4_7 : js_Fp RX4 7 3 0 .int := ⟨RX4, TX4, 6, tyX4, rfl, by decide, iX4, tw_103, tyX4_ok, nmX4, rfl, by decide +kernel⟩
theorem fl_X4_13 : js_Fl RX4 13 3 1 := ⟨RX4, TX4, 6, rfl, by decide, iX4, tw_105⟩
theorem fp_X4_13 : js_Fp RX4 13 3 1 .int := ⟨RX4, TX4, 6, tyX4, rfl, by decide, iX4, tw_105, tyX4_ok, nmX4, rfl, by decide +kernel⟩
theorem fl_X4_16 : js_Fl RX4 16 3 2 := ⟨RX4, TX4, 6, rfl, by decide, iX4, tw_107⟩
theorem fp_X4_16 : js_Fp RX4 16 3 2 .int := ⟨RX4, TX4, 6, tyX4, rfl, by decide, iX4, tw_107, tyX4_ok, nmX4, rfl, by decide +kernel⟩
theorem fl_X4_19 : js_Fl RX4 19 3 3 := ⟨RX4, TX4, 6, rfl, by decide, iX4, tw_109⟩
theorem fp_X4_19 : js_Fp RX4 19 3 3 .int := ⟨RX4, TX4, 6, tyX4, rfl, by decide, iX4, tw_109, tyX4_ok, nmX4, rfl, by decide +kernel⟩
theorem fl_X4_22 : js_Fl RX4 22 3 4 := ⟨RX4, TX4, 6, rfl, by decide, iX4, tw_110⟩
theorem fp_X4_22 : js_Fp RX4 22 3 4 .int := ⟨RX4, TX4, 6, tyX4, rfl, by decide, iX4, tw_110, tyX4_ok, nmX4, rfl, by decide +kernel⟩
theorem fl_X4_25 : js_Fl RX4 25 3 5 := ⟨RX4, TX4, 6, rfl, by decide, iX4, tw_111⟩
theorem fl_X5_9 : js_Fl RX5 9 4 0 := ⟨RX5, TX5, 9, rfl, by decide, iX5, tw_131⟩
theorem fp_X5_9 : js_Fp RX5 9 4 0 .int := ⟨RX5, TX5, 9, tyX5, rfl, by decide, iX5, tw_131, tyX5_ok, nmX5, rfl, by decide +kernel⟩
theorem fl_X5_15 : js_Fl RX5 15 4 1 := ⟨RX5, TX5, 9, rfl, by decide, iX5, tw_132⟩
theorem fp_X5_15 : js_Fp RX5 15 4 1 .int := ⟨RX5, TX5, 9, tyX5, rfl, by decide, iX5, tw_132, tyX5_ok, nmX5, rfl, by decide +kernel⟩
theorem fl_X5_18 : js_Fl RX5 18 4 2 := ⟨RX5, TX5, 9, rfl, by decide, iX5, tw_133⟩
theorem fp_X5_18 : js_Fp RX5 18 4 2 .int := ⟨RX5, TX5, 9, tyX5, rfl, by decide, iX5, tw_133, tyX5_ok, nmX5, rfl, by decide +kernel⟩
theorem fl_X5_21 : js_Fl RX5 21 4 3 := ⟨RX5, TX5, 9, rfl, by decide, iX5, tw_134⟩
theorem fp_X5_21 : js_Fp RX5 21 4 3 .int := ⟨RX5, TX5, 9, tyX5, rfl, by decide, iX5, tw_134, tyX5_ok, nmX5, rfl, by decide +kernel⟩
theorem fl_X5_24 : js_Fl RX5 24 4 4 := ⟨RX5, TX5, 9, rfl, by decide, iX5, tw_135⟩
theorem fp_X5_24 : js_Fp RX5 24 4 4 .int := ⟨RX5, TX5, 9, tyX5, rfl, by decide, iX5, tw_135, tyX5_ok, nmX5, rfl, by decide +kernel⟩
theorem fl_X5_27 : js_Fl RX5 27 4 5 := ⟨RX5, TX5, 9, rfl, by decide, iX5, tw_136⟩
theorem fp_X5_27 : js_Fp RX5 27 4 5 .int := ⟨RX5, TX5, 9, tyX5, rfl, by decide, iX5, tw_136, tyX5_ok, nmX5, rfl, by decide +kernel⟩
theorem fl_X5_30 : js_Fl RX5 30 4 6 := ⟨RX5, TX5, 9, rfl, by decide, iX5, tw_137⟩
theorem fp_X5_30 : js_Fp RX5 30 4 6 .int := ⟨RX5, TX5, 9, tyX5, rfl, by decide, iX5, tw_137, tyX5_ok, nmX5, rfl, by decide +kernel⟩
theorem fl_X5_33 : js_Fl RX5 33 4 7 := ⟨RX5, TX5, 9, rfl, by decide, iX5, tw_138⟩
theorem fp_X5_33 : js_Fp RX5 33 4 7 .int := ⟨RX5, TX5, 9, tyX5, rfl, by decide, iX5, tw_138, tyX5_ok, nmX5, rfl, by decide +kernel⟩
theorem fl_X5_36 : js_Fl RX5 36 4 8 := ⟨RX5, TX5, 9, rfl, by decide, iX5, tw_139⟩
theorem fp_X5_36 : js_Fp RX5 36 4 8 .int := ⟨RX5, TX5, 9, tyX5, rfl, by decide, iX5, tw_139, tyX5_ok, nmX5, rfl, by decide +kernel⟩
theorem fl_X5_39 : js_Fl RX5 39 2 2 := ⟨RX3, TX3, 7, rfl, by decide, iX3, tw_39⟩
theorem fl_X5_55 : js_Fl RX5 55 3 1 := ⟨RX4, TX4, 6, rfl, by decide, iX4, tw_106⟩
theorem fl_X5_61 : js_Fl RX5 61 3 2 := ⟨RX4, TX4, 6, rfl, by decide, iX4, tw_108⟩
theorem fl_X5_106 : js_Fl RX5 106 2 1 := ⟨RX3, TX3, 7, rfl, by decide, iX3, tw_37⟩
theorem fp_X5_106 : js_Fp RX5 106 2 1 .int := ⟨RX3, TX3, 7, tyX3, rfl, by decide, iX3, tw_37, tyX3_ok, nmX3, rfl, by decide +kernel⟩
theorem fl_X6_9 : js_Fl RX6 9 5 0 := ⟨RX6, TX6, 3, rfl, by decide, iX6, tw_85⟩
theorem fp_X6_9 : js_Fp RX6 9 5 0 .int := ⟨RX6, TX6, 3, tyX6, rfl, by decide, iX6, tw_85, tyX6_ok, nmX6, rfl, by decide +kernel⟩
theorem fl_X6_15 : js_Fl RX6 15 5 1 := ⟨RX6, TX6, 3, rfl, by decide, iX6, tw_87⟩
theorem fp_X6_15 : js_Fp RX6 15 5 1 .int := ⟨RX6, TX6, 3, tyX6, rfl, by decide, iX6, tw_87, tyX6_ok, nmX6, rfl, by decide +kernel⟩
theorem fl_X6_18 : js_Fl RX6 18 5 2 := ⟨RX6, TX6, 3, rfl, by decide, iX6, tw_89⟩
theorem fl_X6_32 : js_Fl RX6 32 2 0 := ⟨RX3, TX3, 7, rfl, by decide, iX3, tw_32⟩
theorem fl_X8_7 : js_Fl RX8 7 7 0 := ⟨RX8, TX8, 18, rfl, by decide, iX8, tw_797⟩
theorem fl_X8_13 : js_Fl RX8 13 7 1 := ⟨RX8, TX8, 18, rfl, by decide, iX8, tw_798⟩
theorem fl_X8_16 : js_Fl RX8 16 7 2 := ⟨RX8, TX8, 18, rfl, by decide, iX8, tw_799⟩
theorem fl_X8_19 : js_Fl RX8 19 7 3 := ⟨RX8, TX8, 18, rfl, by decide, iX8, tw_800⟩
theorem fl_X8_22 : js_Fl RX8 22 7 4 := ⟨RX8, TX8, 18, rfl, by decide, iX8, tw_801⟩
theorem fl_X8_25 : js_Fl RX8 25 7 6 := ⟨RX8, TX8, 18, rfl, by decide, iX8, tw_803⟩
theorem fl_X8_28 : js_Fl RX8 28 7 8 := ⟨RX8, TX8, 18, rfl, by decide, iX8, tw_805⟩
theorem fl_X8_31 : js_Fl RX8 31 7 14 := ⟨RX8, TX8, 18, rfl, by decide, iX8, tw_811⟩
theorem fl_X8_34 : js_Fl RX8 34 7 15 := ⟨RX8, TX8, 18, rfl, by decide, iX8, tw_812⟩
theorem fl_X8_37 : js_Fl RX8 37 7 16 := ⟨RX8, TX8, 18, rfl, by decide, iX8, tw_813⟩
theorem fl_X8_41 : js_Fl RX8 41 7 17 := ⟨RX8, TX8, 18, rfl, by decide, iX8, tw_814⟩
theorem fl_X8_167 : js_Fl RX8 167 7 7 := ⟨RX8, TX8, 18, rfl, by decide, iX8, tw_804⟩
theorem fp_X8_167 : js_Fp RX8 167 7 7 .int := ⟨RX8, TX8, 18, tyX8, rfl, by decide, iX8, tw_804, tyX8_ok, nmX8, rfl, by decide +kernel⟩
theorem fl_X8_204 : js_Fl RX8 204 7 9 := ⟨RX8, TX8, 18, rfl, by decide, iX8, tw_806⟩
theorem fp_X8_204 : js_Fp RX8 204 7 9 .int := ⟨RX8, TX8, 18, tyX8, rfl, by decide, iX8, tw_806, tyX8_ok, nmX8, rfl, by decide +kernel⟩
theorem fl_X8_215 : js_Fl RX8 215 7 11 := ⟨RX8, TX8, 18, rfl, by decide, iX8, tw_808⟩
theorem fp_X8_215 : js_Fp RX8 215 7 11 .int := ⟨RX8, TX8, 18, tyX8, rfl, by decide, iX8, tw_808, tyX8_ok, nmX8, rfl, by decide +kernel⟩
theorem fl_X8_218 : js_Fl RX8 218 7 10 := ⟨RX8, TX8, 18, rfl, by decide, iX8, tw_807⟩
theorem fp_X8_218 : js_Fp RX8 218 7 10 .int := ⟨RX8, TX8, 18, tyX8, rfl, by decide, iX8, tw_807, tyX8_ok, nmX8, rfl, by decide +kernel⟩
theorem fl_X8_230 : js_Fl RX8 230 7 13 := ⟨RX8, TX8, 18, rfl, by decide, iX8, tw_810⟩
theorem fp_X8_230 : js_Fp RX8 230 7 13 .boolean := ⟨RX8, TX8, 18, tyX8, rfl, by decide, iX8, tw_810, tyX8_ok, nmX8, rfl, by decide +kernel⟩
theorem fl_X8_241 : js_Fl RX8 241 7 12 := ⟨RX8, TX8, 18, rfl, by decide, iX8, tw_809⟩
theorem fp_X8_241 : js_Fp RX8 241 7 12 .int := ⟨RX8, TX8, 18, tyX8, rfl, by decide, iX8, tw_809, tyX8_ok, nmX8, rfl, by decide +kernel⟩
theorem fl_X8_325 : js_Fl RX8 325 7 5 := ⟨RX8, TX8, 18, rfl, by decide, iX8, tw_802⟩
theorem fp_X8_325 : js_Fp RX8 325 7 5 .boolean := ⟨RX8, TX8, 18, tyX8, rfl, by decide, iX8, tw_802, tyX8_ok, nmX8, rfl, by decide +kernel⟩
theorem mm_max : js_Mm Lib.Math.max.name Lib.Math.max.code := ⟨tw_271, tw_10, tw_272⟩
theorem mm_min : js_Mm Lib.Math.min.name Lib.Math.min.code := ⟨tw_341, tw_10, tw_342⟩
