theorem bo_i : Cond.instanceMethod Lib.objectInit ∈ js_good := List.mem_filter.mpr ⟨List.mem_append_right _ (List.mem_of_getElem? (i := 23) (by decide +kernel)), by decide +kernel⟩
theorem bo_c : Cond.code Lib.objectInit ⟨#[0xb1]⟩ 1 none ∈ js_good := List.mem_filter.mpr ⟨List.mem_append_right _ (List.mem_of_getElem? (i := 24) (by decide +kernel)), by decide +kernel⟩
def mX0_init : js_M := (yX0_init, cX0_init, 1, none, 1, 20)
theorem bm_X0_init : js_Cm mX0_init 0 := ⟨List.mem_filter.mpr ⟨List.mem_append_right _ (List.mem_of_getElem? (i := 3) (by decide +kernel)), by decide +kernel⟩, List.mem_filter.mpr ⟨List.mem_append_right _ (List.mem_of_getElem? (i := 65) (by decide +kernel)), by decide +kernel⟩, by decide +kernel⟩
theorem bv_X0_init : Cond.instanceMethod yX0_init ∈ js_good := List.mem_filter.mpr ⟨List.mem_append_right _ (List.mem_of_getElem? (i := 64) (by decide +kernel)), by decide +kernel⟩
abbrev fs_X0 : List Value := [.int 0, .int 0, .null]
theorem bo_X0 : bi_O RX0 3 := ⟨List.mem_filter.mpr ⟨List.mem_append_right _ (List.mem_of_getElem? (i := 66) (by decide +kernel)), by decide +kernel⟩, bo_i, bo_c⟩
theorem bf_X0_9 : bi_F RX0 9 0 0 .int false := ⟨TX0, 3, tyX0, rfl, by decide, iX0, List.mem_filter.mpr ⟨List.mem_append_right _ (List.mem_of_getElem? (i := 67) (by decide +kernel)), by decide +kernel⟩, tyX0_ok, nmX0, rfl, rfl, by decide +kernel⟩
theorem bf_X0_15 : bi_F RX0 15 0 1 .int false := ⟨TX0, 3, tyX0, rfl, by decide, iX0, List.mem_filter.mpr ⟨List.mem_append_right _ (List.mem_of_getElem? (i := 69) (by decide +kernel)), by decide +kernel⟩, tyX0_ok, nmX0, rfl, rfl, by decide +kernel⟩
theorem bf_X0_18 : bi_F RX0 18 0 2 (.array .int) true := ⟨TX0, 3, tyX0, rfl, by decide, iX0, List.mem_filter.mpr ⟨List.mem_append_right _ (List.mem_of_getElem? (i := 71) (by decide +kernel)), by decide +kernel⟩, tyX0_ok, nmX0, rfl, rfl, by decide +kernel⟩
def mX2_init : js_M := (yX2_init, cX2_init, 1, none, 1, 20)
theorem bm_X2_init : js_Cm mX2_init 0 := ⟨List.mem_filter.mpr ⟨List.mem_append_right _ (List.mem_of_getElem? (i := 7) (by decide +kernel)), by decide +kernel⟩, List.mem_filter.mpr ⟨List.mem_append_right _ (List.mem_of_getElem? (i := 163) (by decide +kernel)), by decide +kernel⟩, by decide +kernel⟩
theorem bv_X2_init : Cond.instanceMethod yX2_init ∈ js_good := List.mem_filter.mpr ⟨List.mem_append_right _ (List.mem_of_getElem? (i := 162) (by decide +kernel)), by decide +kernel⟩
abbrev fs_X2 : List Value := [.null, .null, .null]
theorem bo_X2 : bi_O RX2 1 := ⟨List.mem_filter.mpr ⟨List.mem_append_right _ (List.mem_of_getElem? (i := 164) (by decide +kernel)), by decide +kernel⟩, bo_i, bo_c⟩
theorem bf_X2_9 : bi_F RX2 9 1 0 (.array .int) true := ⟨TX2, 3, tyX2, rfl, by decide, iX2, List.mem_filter.mpr ⟨List.mem_append_right _ (List.mem_of_getElem? (i := 165) (by decide +kernel)), by decide +kernel⟩, tyX2_ok, nmX2, rfl, rfl, by decide +kernel⟩
theorem bf_X2_13 : bi_F RX2 13 1 1 (.array .int) true := ⟨TX2, 3, tyX2, rfl, by decide, iX2, List.mem_filter.mpr ⟨List.mem_append_right _ (List.mem_of_getElem? (i := 166) (by decide +kernel)), by decide +kernel⟩, tyX2_ok, nmX2, rfl, rfl, by decide +kernel⟩
theorem bf_X2_16 : bi_F RX2 16 1 2 (.array .long) true := ⟨TX2, 3, tyX2, rfl, by decide, iX2, List.mem_filter.mpr ⟨List.mem_append_right _ (List.mem_of_getElem? (i := 167) (by decide +kernel)), by decide +kernel⟩, tyX2_ok, nmX2, rfl, rfl, by decide +kernel⟩
def mX3_init : js_M := (yX3_init, cX3_init, 1, none, 1, 20)
theorem bm_X3_init : js_Cm mX3_init 0 := ⟨List.mem_filter.mpr ⟨List.mem_append_right _ (List.mem_of_getElem? (i := 2) (by decide +kernel)), by decide +kernel⟩, List.mem_filter.mpr ⟨List.mem_append_right _ (List.mem_of_getElem? (i := 29) (by decide +kernel)), by decide +kernel⟩, by decide +kernel⟩
theorem bv_X3_init : Cond.instanceMethod yX3_init ∈ js_good := List.mem_filter.mpr ⟨List.mem_append_right _ (List.mem_of_getElem? (i := 28) (by decide +kernel)), by decide +kernel⟩
abbrev fs_X3 : List Value := [.int 0, .int 0, .int 0, .null, .null, .null, .null]
theorem bo_X3 : bi_O RX3 3 := ⟨List.mem_filter.mpr ⟨List.mem_append_right _ (List.mem_of_getElem? (i := 30) (by decide +kernel)), by decide +kernel⟩, bo_i, bo_c⟩
theorem bf_X3_9 : bi_F RX3 9 2 0 .int false := ⟨TX3, 7, tyX3, rfl, by decide, iX3, List.mem_filter.mpr ⟨List.mem_append_right _ (List.mem_of_getElem? (i := 31) (by decide +kernel)), by decide +kernel⟩, tyX3_ok, nmX3, rfl, rfl, by decide +kernel⟩
theorem bf_X3_15 : bi_F RX3 15 2 1 .int false := ⟨TX3, 7, tyX3, rfl, by decide, iX3, List.mem_filter.mpr ⟨List.mem_append_right _ (List.mem_of_getElem? (i := 34) (by decide +kernel)), by decide +kernel⟩, tyX3_ok, nmX3, rfl, rfl, by decide +kernel⟩
theorem bf_X3_18 : bi_F RX3 18 2 2 .int false := ⟨TX3, 7, tyX3, rfl, by decide, iX3, List.mem_filter.mpr ⟨List.mem_append_right _ (List.mem_of_getElem? (i := 38) (by decide +kernel)), by decide +kernel⟩, tyX3_ok, nmX3, rfl, rfl, by decide +kernel⟩
theorem bf_X3_21 : bi_F RX3 21 2 3 (.array .int) true := ⟨TX3, 7, tyX3, rfl, by decide, iX3, List.mem_filter.mpr ⟨List.mem_append_right _ (List.mem_of_getElem? (i := 41) (by decide +kernel)), by decide +kernel⟩, tyX3_ok, nmX3, rfl, rfl, by decide +kernel⟩
theorem bf_X3_25 : bi_F RX3 25 2 4 (.array .int) true := ⟨TX3, 7, tyX3, rfl, by decide, iX3, List.mem_filter.mpr ⟨List.mem_append_right _ (List.mem_of_getElem? (i := 42) (by decide +kernel)), by decide +kernel⟩, tyX3_ok, nmX3, rfl, rfl, by decide +kernel⟩
theorem bf_X3_28 : bi_F RX3 28 2 5 (.array .int) true := ⟨TX3, 7, tyX3, rfl, by decide, iX3, List.mem_filter.mpr ⟨List.mem_append_right _ (List.mem_of_getElem? (i := 43) (by decide +kernel)), by decide +kernel⟩, tyX3_ok, nmX3, rfl, rfl, by decide +kernel⟩
theorem bf_X3_31 : bi_F RX3 31 2 6 (.array .int) true := ⟨TX3, 7, tyX3, rfl, by decide, iX3, List.mem_filter.mpr ⟨List.mem_append_right _ (List.mem_of_getElem? (i := 44) (by decide +kernel)), by decide +kernel⟩, tyX3_ok, nmX3, rfl, rfl, by decide +kernel⟩
def mX4_init : js_M := (yX4_init, cX4_init, 1, none, 1, 20)
theorem bm_X4_init : js_Cm mX4_init 0 := ⟨List.mem_filter.mpr ⟨List.mem_append_right _ (List.mem_of_getElem? (i := 5) (by decide +kernel)), by decide +kernel⟩, List.mem_filter.mpr ⟨List.mem_append_right _ (List.mem_of_getElem? (i := 101) (by decide +kernel)), by decide +kernel⟩, by decide +kernel⟩
theorem bv_X4_init : Cond.instanceMethod yX4_init ∈ js_good := List.mem_filter.mpr ⟨List.mem_append_right _ (List.mem_of_getElem? (i := 100) (by decide +kernel)), by decide +kernel⟩
abbrev fs_X4 : List Value := [.int 0, .int 0, .int 0, .int 0, .int 0, .null]
theorem bo_X4 : bi_O RX4 1 := ⟨List.mem_filter.mpr ⟨List.mem_append_right _ (List.mem_of_getElem? (i := 102) (by decide +kernel)), by decide +kernel⟩, bo_i, bo_c⟩
theorem bf_X4_7 : bi_F RX4 7 3 0 .int false := ⟨TX4, 6, tyX4, rfl, by decide, iX4, List.mem_filter.mpr ⟨List.mem_append_right _ (List.mem_of_getElem? (i := 103) (by decide +kernel)), by decide +kernel⟩, tyX4_ok, nmX4, rfl, rfl, by decide +kernel⟩
theorem bf_X4_13 : bi_F RX4 13 3 1 .int false := ⟨TX4, 6, tyX4, rfl, by decide, iX4, List.mem_filter.mpr ⟨List.mem_append_right _ (List.mem_of_getElem? (i := 105) (by decide +kernel)), by decide +kernel⟩, tyX4_ok, nmX4, rfl, rfl, by decide +kernel⟩
theorem bf_X4_16 : bi_F RX4 16 3 2 .int false := ⟨TX4, 6, tyX4, rfl, by decide, iX4, List.mem_filter.mpr ⟨List.mem_append_right _ (List.mem_of_getElem? (i := 107) (by decide +kernel)), by decide +kernel⟩, tyX4_ok, nmX4, rfl, rfl, by decide +kernel⟩
theorem bf_X4_19 : bi_F RX4 19 3 3 .int false := ⟨TX4, 6, tyX4, rfl, by decide, iX4, List.mem_filter.mpr ⟨List.mem_append_right _ (List.mem_of_getElem? (i := 109) (by decide +kernel)), by decide +kernel⟩, tyX4_ok, nmX4, rfl, rfl, by decide +kernel⟩
theorem bf_X4_22 : bi_F RX4 22 3 4 .int false := ⟨TX4, 6, tyX4, rfl, by decide, iX4, List.mem_filter.mpr ⟨List.mem_append_right _ (List.mem_of_getElem? (i := 110) (by decide +kernel)), by decide +kernel⟩, tyX4_ok, nmX4, rfl, rfl, by decide +kernel⟩
theorem bf_X4_25 : bi_F RX4 25 3 5 (.array .int) true := ⟨TX4, 6, tyX4, rfl, by decide, iX4, List.mem_filter.mpr ⟨List.mem_append_right _ (List.mem_of_getElem? (i := 111) (by decide +kernel)), by decide +kernel⟩, tyX4_ok, nmX4, rfl, rfl, by decide +kernel⟩
def mX5_init : js_M := (yX5_init, cX5_init, 1, none, 1, 20)
theorem bm_X5_init : js_Cm mX5_init 0 := ⟨List.mem_filter.mpr ⟨List.mem_append_right _ (List.mem_of_getElem? (i := 6) (by decide +kernel)), by decide +kernel⟩, List.mem_filter.mpr ⟨List.mem_append_right _ (List.mem_of_getElem? (i := 129) (by decide +kernel)), by decide +kernel⟩, by decide +kernel⟩
theorem bv_X5_init : Cond.instanceMethod yX5_init ∈ js_good := List.mem_filter.mpr ⟨List.mem_append_right _ (List.mem_of_getElem? (i := 128) (by decide +kernel)), by decide +kernel⟩
abbrev fs_X5 : List Value := [.int 0, .int 0, .int 0, .int 0, .int 0, .int 0, .int 0, .int 0, .int 0]
theorem bo_X5 : bi_O RX5 3 := ⟨List.mem_filter.mpr ⟨List.mem_append_right _ (List.mem_of_getElem? (i := 130) (by decide +kernel)), by decide +kernel⟩, bo_i, bo_c⟩
theorem bf_X5_9 : bi_F RX5 9 4 0 .int false := ⟨TX5, 9, tyX5, rfl, by decide, iX5, List.mem_filter.mpr ⟨List.mem_append_right _ (List.mem_of_getElem? (i := 131) (by decide +kernel)), by decide +kernel⟩, tyX5_ok, nmX5, rfl, rfl, by decide +kernel⟩
theorem bf_X5_15 : bi_F RX5 15 4 1 .int false := ⟨TX5, 9, tyX5, rfl, by decide, iX5, List.mem_filter.mpr ⟨List.mem_append_right _ (List.mem_of_getElem? (i := 132) (by decide +kernel)), by decide +kernel⟩, tyX5_ok, nmX5, rfl, rfl, by decide +kernel⟩
theorem bf_X5_18 : bi_F RX5 18 4 2 .int false := ⟨TX5, 9, tyX5, rfl, by decide, iX5, List.mem_filter.mpr ⟨List.mem_append_right _ (List.mem_of_getElem? (i := 133) (by decide +kernel)), by decide +kernel⟩, tyX5_ok, nmX5, rfl, rfl, by decide +kernel⟩
theorem bf_X5_21 : bi_F RX5 21 4 3 .int false := ⟨TX5, 9, tyX5, rfl, by decide, iX5, List.mem_filter.mpr ⟨List.mem_append_right _ (List.mem_of_getElem? (i := 134) (by decide +kernel)), by decide +kernel⟩, tyX5_ok, nmX5, rfl, rfl, by decide +kernel⟩
theorem bf_X5_24 : bi_F RX5 24 4 4 .int false := ⟨TX5, 9, tyX5, rfl, by decide, iX5, List.mem_filter.mpr ⟨List.mem_append_right _ (List.mem_of_getElem? (i := 135) (by decide +kernel)), by decide +kernel⟩, tyX5_ok, nmX5, rfl, rfl, by decide +kernel⟩
theorem bf_X5_27 : bi_F RX5 27 4 5 .int false := ⟨TX5, 9, tyX5, rfl, by decide, iX5, List.mem_filter.mpr ⟨List.mem_append_right _ (List.mem_of_getElem? (i := 136) (by decide +kernel)), by decide +kernel⟩, tyX5_ok, nmX5, rfl, rfl, by decide +kernel⟩
theorem bf_X5_30 : bi_F RX5 30 4 6 .int false := ⟨TX5, 9, tyX5, rfl, by decide, iX5, List.mem_filter.mpr ⟨List.mem_append_right _ (List.mem_of_getElem? (i := 137) (by decide +kernel)), by decide +kernel⟩, tyX5_ok, nmX5, rfl, rfl, by decide +kernel⟩
theorem bf_X5_33 : bi_F RX5 33 4 7 .int false := ⟨TX5, 9, tyX5, rfl, by decide, iX5, List.mem_filter.mpr ⟨List.mem_append_right _ (List.mem_of_getElem? (i := 138) (by decide +kernel)), by decide +kernel⟩, tyX5_ok, nmX5, rfl, rfl, by decide +kernel⟩
theorem bf_X5_36 : bi_F RX5 36 4 8 .int false := ⟨TX5, 9, tyX5, rfl, by decide, iX5, List.mem_filter.mpr ⟨List.mem_append_right _ (List.mem_of_getElem? (i := 139) (by decide +kernel)), by decide +kernel⟩, tyX5_ok, nmX5, rfl, rfl, by decide +kernel⟩
def mX6_init : js_M := (yX6_init, cX6_init, 1, none, 1, 20)
theorem bm_X6_init : js_Cm mX6_init 0 := ⟨List.mem_filter.mpr ⟨List.mem_append_right _ (List.mem_of_getElem? (i := 4) (by decide +kernel)), by decide +kernel⟩, List.mem_filter.mpr ⟨List.mem_append_right _ (List.mem_of_getElem? (i := 83) (by decide +kernel)), by decide +kernel⟩, by decide +kernel⟩
theorem bv_X6_init : Cond.instanceMethod yX6_init ∈ js_good := List.mem_filter.mpr ⟨List.mem_append_right _ (List.mem_of_getElem? (i := 82) (by decide +kernel)), by decide +kernel⟩
abbrev fs_X6 : List Value := [.int 0, .int 0, .null]
theorem bo_X6 : bi_O RX6 3 := ⟨List.mem_filter.mpr ⟨List.mem_append_right _ (List.mem_of_getElem? (i := 84) (by decide +kernel)), by decide +kernel⟩, bo_i, bo_c⟩
theorem bf_X6_9 : bi_F RX6 9 5 0 .int false := ⟨TX6, 3, tyX6, rfl, by decide, iX6, List.mem_filter.mpr ⟨List.mem_append_right _ (List.mem_of_getElem? (i := 85) (by decide +kernel)), by decide +kernel⟩, tyX6_ok, nmX6, rfl, rfl, by decide +kernel⟩
theorem bf_X6_15 : bi_F RX6 15 5 1 .int false := ⟨TX6, 3, tyX6, rfl, by decide, iX6, List.mem_filter.mpr ⟨List.mem_append_right _ (List.mem_of_getElem? (i := 87) (by decide +kernel)), by decide +kernel⟩, tyX6_ok, nmX6, rfl, rfl, by decide +kernel⟩
theorem bf_X6_18 : bi_F RX6 18 5 2 (.array .int) true := ⟨TX6, 3, tyX6, rfl, by decide, iX6, List.mem_filter.mpr ⟨List.mem_append_right _ (List.mem_of_getElem? (i := 89) (by decide +kernel)), by decide +kernel⟩, tyX6_ok, nmX6, rfl, rfl, by decide +kernel⟩
def mX7_init : js_M := (yX7_init, cX7_init, 1, none, 2, 40)
theorem bm_X7_init : js_Cm mX7_init 0 := ⟨List.mem_filter.mpr ⟨List.mem_append_right _ (List.mem_of_getElem? (i := 1) (by decide +kernel)), by decide +kernel⟩, List.mem_filter.mpr ⟨List.mem_append_right _ (List.mem_of_getElem? (i := 21) (by decide +kernel)), by decide +kernel⟩, by decide +kernel⟩
theorem bv_X7_init : Cond.instanceMethod yX7_init ∈ js_good := List.mem_filter.mpr ⟨List.mem_append_right _ (List.mem_of_getElem? (i := 20) (by decide +kernel)), by decide +kernel⟩
abbrev fs_X7 : List Value := [.null, .null, .int 0, .null, .null, .null, .null, .null, .null, .null]
theorem bo_X7 : bi_O RX7 1 := ⟨List.mem_filter.mpr ⟨List.mem_append_right _ (List.mem_of_getElem? (i := 22) (by decide +kernel)), by decide +kernel⟩, bo_i, bo_c⟩
theorem bf_X7_10 : bi_F RX7 10 6 0 (.object "SootTalk$Stack") true := ⟨TX7, 10, tyX7, rfl, by decide, iX7, List.mem_filter.mpr ⟨List.mem_append_right _ (List.mem_of_getElem? (i := 176) (by decide +kernel)), by decide +kernel⟩, tyX7_ok, nmX7, rfl, rfl, by decide +kernel⟩
theorem bf_X7_16 : bi_F RX7 16 6 1 (.object "SootTalk$Stack") true := ⟨TX7, 10, tyX7, rfl, by decide, iX7, List.mem_filter.mpr ⟨List.mem_append_right _ (List.mem_of_getElem? (i := 177) (by decide +kernel)), by decide +kernel⟩, tyX7_ok, nmX7, rfl, rfl, by decide +kernel⟩
theorem bf_X7_19 : bi_F RX7 19 6 2 .boolean false := ⟨TX7, 10, tyX7, rfl, by decide, iX7, List.mem_filter.mpr ⟨List.mem_append_right _ (List.mem_of_getElem? (i := 178) (by decide +kernel)), by decide +kernel⟩, tyX7_ok, nmX7, rfl, rfl, by decide +kernel⟩
theorem bf_X7_26 : bi_F RX7 26 6 3 (.object "SootTalk$Brush") true := ⟨TX7, 10, tyX7, rfl, by decide, iX7, List.mem_filter.mpr ⟨List.mem_append_right _ (List.mem_of_getElem? (i := 179) (by decide +kernel)), by decide +kernel⟩, tyX7_ok, nmX7, rfl, rfl, by decide +kernel⟩
theorem bf_X7_33 : bi_F RX7 33 6 4 (.object "SootTalk$Trial") true := ⟨TX7, 10, tyX7, rfl, by decide, iX7, List.mem_filter.mpr ⟨List.mem_append_right _ (List.mem_of_getElem? (i := 180) (by decide +kernel)), by decide +kernel⟩, tyX7_ok, nmX7, rfl, rfl, by decide +kernel⟩
theorem bf_X7_40 : bi_F RX7 40 6 5 (.object "SootTalk$Tape") true := ⟨TX7, 10, tyX7, rfl, by decide, iX7, List.mem_filter.mpr ⟨List.mem_append_right _ (List.mem_of_getElem? (i := 181) (by decide +kernel)), by decide +kernel⟩, tyX7_ok, nmX7, rfl, rfl, by decide +kernel⟩
theorem bf_X7_47 : bi_F RX7 47 6 6 (.object "SootTalk$Text") true := ⟨TX7, 10, tyX7, rfl, by decide, iX7, List.mem_filter.mpr ⟨List.mem_append_right _ (List.mem_of_getElem? (i := 182) (by decide +kernel)), by decide +kernel⟩, tyX7_ok, nmX7, rfl, rfl, by decide +kernel⟩
theorem bf_X7_54 : bi_F RX7 54 6 7 (.object "SootTalk$Sheets") true := ⟨TX7, 10, tyX7, rfl, by decide, iX7, List.mem_filter.mpr ⟨List.mem_append_right _ (List.mem_of_getElem? (i := 183) (by decide +kernel)), by decide +kernel⟩, tyX7_ok, nmX7, rfl, rfl, by decide +kernel⟩
theorem bf_X7_58 : bi_F RX7 58 6 8 (.array .int) true := ⟨TX7, 10, tyX7, rfl, by decide, iX7, List.mem_filter.mpr ⟨List.mem_append_right _ (List.mem_of_getElem? (i := 184) (by decide +kernel)), by decide +kernel⟩, tyX7_ok, nmX7, rfl, rfl, by decide +kernel⟩
theorem bf_X7_62 : bi_F RX7 62 6 9 (.array .int) true := ⟨TX7, 10, tyX7, rfl, by decide, iX7, List.mem_filter.mpr ⟨List.mem_append_right _ (List.mem_of_getElem? (i := 185) (by decide +kernel)), by decide +kernel⟩, tyX7_ok, nmX7, rfl, rfl, by decide +kernel⟩
def mX8_init : js_M := (yX8_init, cX8_init, 1, none, 1, 20)
theorem bm_X8_init : js_Cm mX8_init 0 := ⟨List.mem_filter.mpr ⟨List.mem_append_right _ (List.mem_of_getElem? (i := 8) (by decide +kernel)), by decide +kernel⟩, List.mem_filter.mpr ⟨List.mem_append_right _ (List.mem_of_getElem? (i := 795) (by decide +kernel)), by decide +kernel⟩, by decide +kernel⟩
theorem bv_X8_init : Cond.instanceMethod yX8_init ∈ js_good := List.mem_filter.mpr ⟨List.mem_append_right _ (List.mem_of_getElem? (i := 794) (by decide +kernel)), by decide +kernel⟩
abbrev fs_X8 : List Value := [.null, .null, .null, .null, .null, .int 0, .null, .int 0, .null, .int 0, .int 0, .int 0, .int 0, .int 0, .null, .null, .null, .null]
theorem bo_X8 : bi_O RX8 1 := ⟨List.mem_filter.mpr ⟨List.mem_append_right _ (List.mem_of_getElem? (i := 796) (by decide +kernel)), by decide +kernel⟩, bo_i, bo_c⟩
theorem bf_X8_7 : bi_F RX8 7 7 0 (.array .int) true := ⟨TX8, 18, tyX8, rfl, by decide, iX8, List.mem_filter.mpr ⟨List.mem_append_right _ (List.mem_of_getElem? (i := 797) (by decide +kernel)), by decide +kernel⟩, tyX8_ok, nmX8, rfl, rfl, by decide +kernel⟩
theorem bf_X8_13 : bi_F RX8 13 7 1 (.array .int) true := ⟨TX8, 18, tyX8, rfl, by decide, iX8, List.mem_filter.mpr ⟨List.mem_append_right _ (List.mem_of_getElem? (i := 798) (by decide +kernel)), by decide +kernel⟩, tyX8_ok, nmX8, rfl, rfl, by decide +kernel⟩
theorem bf_X8_16 : bi_F RX8 16 7 2 (.array .int) true := ⟨TX8, 18, tyX8, rfl, by decide, iX8, List.mem_filter.mpr ⟨List.mem_append_right _ (List.mem_of_getElem? (i := 799) (by decide +kernel)), by decide +kernel⟩, tyX8_ok, nmX8, rfl, rfl, by decide +kernel⟩
theorem bf_X8_19 : bi_F RX8 19 7 3 (.array .int) true := ⟨TX8, 18, tyX8, rfl, by decide, iX8, List.mem_filter.mpr ⟨List.mem_append_right _ (List.mem_of_getElem? (i := 800) (by decide +kernel)), by decide +kernel⟩, tyX8_ok, nmX8, rfl, rfl, by decide +kernel⟩
theorem bf_X8_22 : bi_F RX8 22 7 4 (.array .int) true := ⟨TX8, 18, tyX8, rfl, by decide, iX8, List.mem_filter.mpr ⟨List.mem_append_right _ (List.mem_of_getElem? (i := 801) (by decide +kernel)), by decide +kernel⟩, tyX8_ok, nmX8, rfl, rfl, by decide +kernel⟩
theorem bf_X8_25 : bi_F RX8 25 7 6 (.array .int) true := ⟨TX8, 18, tyX8, rfl, by decide, iX8, List.mem_filter.mpr ⟨List.mem_append_right _ (List.mem_of_getElem? (i := 803) (by decide +kernel)), by decide +kernel⟩, tyX8_ok, nmX8, rfl, rfl, by decide +kernel⟩
theorem bf_X8_28 : bi_F RX8 28 7 8 (.array .int) true := ⟨TX8, 18, tyX8, rfl, by decide, iX8, List.mem_filter.mpr ⟨List.mem_append_right _ (List.mem_of_getElem? (i := 805) (by decide +kernel)), by decide +kernel⟩, tyX8_ok, nmX8, rfl, rfl, by decide +kernel⟩
theorem bf_X8_31 : bi_F RX8 31 7 14 (.array .int) true := ⟨TX8, 18, tyX8, rfl, by decide, iX8, List.mem_filter.mpr ⟨List.mem_append_right _ (List.mem_of_getElem? (i := 811) (by decide +kernel)), by decide +kernel⟩, tyX8_ok, nmX8, rfl, rfl, by decide +kernel⟩
theorem bf_X8_34 : bi_F RX8 34 7 15 (.array .int) true := ⟨TX8, 18, tyX8, rfl, by decide, iX8, List.mem_filter.mpr ⟨List.mem_append_right _ (List.mem_of_getElem? (i := 812) (by decide +kernel)), by decide +kernel⟩, tyX8_ok, nmX8, rfl, rfl, by decide +kernel⟩
theorem bf_X8_37 : bi_F RX8 37 7 16 (.array .long) true := ⟨TX8, 18, tyX8, rfl, by decide, iX8, List.mem_filter.mpr ⟨List.mem_append_right _ (List.mem_of_getElem? (i := 813) (by decide +kernel)), by decide +kernel⟩, tyX8_ok, nmX8, rfl, rfl, by decide +kernel⟩
theorem bf_X8_41 : bi_F RX8 41 7 17 (.array .long) true := ⟨TX8, 18, tyX8, rfl, by decide, iX8, List.mem_filter.mpr ⟨List.mem_append_right _ (List.mem_of_getElem? (i := 814) (by decide +kernel)), by decide +kernel⟩, tyX8_ok, nmX8, rfl, rfl, by decide +kernel⟩
theorem bn_X7_7 : bi_N RX7 7 2 7 TX3 RX3 fs_X3 := ⟨rfl, iX3, List.mem_filter.mpr ⟨List.mem_append_right _ (List.mem_of_getElem? (i := 25) (by decide +kernel)), by decide +kernel⟩, List.mem_filter.mpr ⟨List.mem_append_right _ (List.mem_of_getElem? (i := 26) (by decide +kernel)), by decide +kernel⟩, List.mem_filter.mpr ⟨List.mem_append_right _ (List.mem_of_getElem? (i := 2) (by decide +kernel)), by decide +kernel⟩, tyX3, tyX3_ok, fun j hj => match j, hj with | 0, _ => rfl | 1, _ => rfl | 2, _ => rfl | 3, _ => rfl | 4, _ => rfl | 5, _ => rfl | 6, _ => rfl | j + 7, h => absurd h (Nat.not_lt.mpr (Nat.le_add_left _ _))⟩
theorem bn_X7_23 : bi_N RX7 23 0 3 TX0 RX0 fs_X0 := ⟨rfl, iX0, List.mem_filter.mpr ⟨List.mem_append_right _ (List.mem_of_getElem? (i := 61) (by decide +kernel)), by decide +kernel⟩, List.mem_filter.mpr ⟨List.mem_append_right _ (List.mem_of_getElem? (i := 62) (by decide +kernel)), by decide +kernel⟩, List.mem_filter.mpr ⟨List.mem_append_right _ (List.mem_of_getElem? (i := 3) (by decide +kernel)), by decide +kernel⟩, tyX0, tyX0_ok, fun j hj => match j, hj with | 0, _ => rfl | 1, _ => rfl | 2, _ => rfl | j + 3, h => absurd h (Nat.not_lt.mpr (Nat.le_add_left _ _))⟩
theorem bn_X7_30 : bi_N RX7 30 5 3 TX6 RX6 fs_X6 := ⟨rfl, iX6, List.mem_filter.mpr ⟨List.mem_append_right _ (List.mem_of_getElem? (i := 79) (by decide +kernel)), by decide +kernel⟩, List.mem_filter.mpr ⟨List.mem_append_right _ (List.mem_of_getElem? (i := 80) (by decide +kernel)), by decide +kernel⟩, List.mem_filter.mpr ⟨List.mem_append_right _ (List.mem_of_getElem? (i := 4) (by decide +kernel)), by decide +kernel⟩, tyX6, tyX6_ok, fun j hj => match j, hj with | 0, _ => rfl | 1, _ => rfl | 2, _ => rfl | j + 3, h => absurd h (Nat.not_lt.mpr (Nat.le_add_left _ _))⟩
theorem bn_X7_37 : bi_N RX7 37 3 6 TX4 RX4 fs_X4 := ⟨rfl, iX4, List.mem_filter.mpr ⟨List.mem_append_right _ (List.mem_of_getElem? (i := 97) (by decide +kernel)), by decide +kernel⟩, List.mem_filter.mpr ⟨List.mem_append_right _ (List.mem_of_getElem? (i := 98) (by decide +kernel)), by decide +kernel⟩, List.mem_filter.mpr ⟨List.mem_append_right _ (List.mem_of_getElem? (i := 5) (by decide +kernel)), by decide +kernel⟩, tyX4, tyX4_ok, fun j hj => match j, hj with | 0, _ => rfl | 1, _ => rfl | 2, _ => rfl | 3, _ => rfl | 4, _ => rfl | 5, _ => rfl | j + 6, h => absurd h (Nat.not_lt.mpr (Nat.le_add_left _ _))⟩
theorem bn_X7_44 : bi_N RX7 44 4 9 TX5 RX5 fs_X5 := ⟨rfl, iX5, List.mem_filter.mpr ⟨List.mem_append_right _ (List.mem_of_getElem? (i := 125) (by decide +kernel)), by decide +kernel⟩, List.mem_filter.mpr ⟨List.mem_append_right _ (List.mem_of_getElem? (i := 126) (by decide +kernel)), by decide +kernel⟩, List.mem_filter.mpr ⟨List.mem_append_right _ (List.mem_of_getElem? (i := 6) (by decide +kernel)), by decide +kernel⟩, tyX5, tyX5_ok, fun j hj => match j, hj with | 0, _ => rfl | 1, _ => rfl | 2, _ => rfl | 3, _ => rfl | 4, _ => rfl | 5, _ => rfl | 6, _ => rfl | 7, _ => rfl | 8, _ => rfl | j + 9, h => absurd h (Nat.not_lt.mpr (Nat.le_add_left _ _))⟩
theorem bn_X7_51 : bi_N RX7 51 1 3 TX2 RX2 fs_X2 := ⟨rfl, iX2, List.mem_filter.mpr ⟨List.mem_append_right _ (List.mem_of_getElem? (i := 159) (by decide +kernel)), by decide +kernel⟩, List.mem_filter.mpr ⟨List.mem_append_right _ (List.mem_of_getElem? (i := 160) (by decide +kernel)), by decide +kernel⟩, List.mem_filter.mpr ⟨List.mem_append_right _ (List.mem_of_getElem? (i := 7) (by decide +kernel)), by decide +kernel⟩, tyX2, tyX2_ok, fun j hj => match j, hj with | 0, _ => rfl | 1, _ => rfl | 2, _ => rfl | j + 3, h => absurd h (Nat.not_lt.mpr (Nat.le_add_left _ _))⟩
theorem bn_L_7 : bi_N RL 7 6 10 TX7 RX7 fs_X7 := ⟨rfl, iX7, List.mem_filter.mpr ⟨List.mem_append_right _ (List.mem_of_getElem? (i := 17) (by decide +kernel)), by decide +kernel⟩, List.mem_filter.mpr ⟨List.mem_append_right _ (List.mem_of_getElem? (i := 18) (by decide +kernel)), by decide +kernel⟩, List.mem_filter.mpr ⟨List.mem_append_right _ (List.mem_of_getElem? (i := 1) (by decide +kernel)), by decide +kernel⟩, tyX7, tyX7_ok, fun j hj => match j, hj with | 0, _ => rfl | 1, _ => rfl | 2, _ => rfl | 3, _ => rfl | 4, _ => rfl | 5, _ => rfl | 6, _ => rfl | 7, _ => rfl | 8, _ => rfl | 9, _ => rfl | j + 10, h => absurd h (Nat.not_lt.mpr (Nat.le_add_left _ _))⟩
theorem bn_L_10 : bi_N RL 10 7 18 TX8 RX8 fs_X8 := ⟨rfl, iX8, List.mem_filter.mpr ⟨List.mem_append_right _ (List.mem_of_getElem? (i := 791) (by decide +kernel)), by decide +kernel⟩, List.mem_filter.mpr ⟨List.mem_append_right _ (List.mem_of_getElem? (i := 792) (by decide +kernel)), by decide +kernel⟩, List.mem_filter.mpr ⟨List.mem_append_right _ (List.mem_of_getElem? (i := 8) (by decide +kernel)), by decide +kernel⟩, tyX8, tyX8_ok, fun j hj => match j, hj with | 0, _ => rfl | 1, _ => rfl | 2, _ => rfl | 3, _ => rfl | 4, _ => rfl | 5, _ => rfl | 6, _ => rfl | 7, _ => rfl | 8, _ => rfl | 9, _ => rfl | 10, _ => rfl | 11, _ => rfl | 12, _ => rfl | 13, _ => rfl | 14, _ => rfl | 15, _ => rfl | 16, _ => rfl | 17, _ => rfl | j + 18, h => absurd h (Nat.not_lt.mpr (Nat.le_add_left _ _))⟩
set_option maxRecDepth 100000 in
theorem bc_X0 (l : Launch) (D : va_G) (cI cL : ClassId) : bi_Con l D cI cL mX0_init 1 48 [] 0 fs_X0 (fun h0 u => [(h0, .inr (0, [.int 0, .int 0, .ref (u 0)])), ((u 0), .inl (cI, 48, .inl (fun _ => 0)))]) := by
  refine bi_con pn_X0 rfl rfl rfl ?_
  intro h0 A p e s m args below meth c ls Q C hA hl hS kR
  refine lv_aload_n C.1 C.2.1 dX0_init_0 rfl (lv_at hl 0 rfl) ?_
  refine bi_obj C hl rfl dX0_init_1 bo_X0 rfl rfl ?_
  refine lv_aload_n C.1 C.2.1 dX0_init_4 rfl (lv_at hl 0 rfl) ?_
  refine lv_iconst (v := 0) C.1 C.2.1 dX0_init_5 (by decide) ?_
  refine bi_put (ws2 := [(h0, .inr (0, [.int 0, .int 0, .null]))]) C hS dX0_init_6 bf_X0_9 rfl rfl rfl (Nat.le_of_ble_eq_true rfl) rfl (fun H locs hS => ?_)
  refine lv_aload_n C.1 C.2.1 dX0_init_9 rfl (lv_at hl 0 rfl) ?_
  refine lv_iconst (v := 0) C.1 C.2.1 dX0_init_10 (by decide) ?_
  refine bi_put (ws2 := [(h0, .inr (0, [.int 0, .int 0, .null]))]) C hS dX0_init_11 bf_X0_15 rfl rfl rfl (Nat.le_of_ble_eq_true rfl) rfl (fun H locs hS => ?_)
  refine lv_aload_n C.1 C.2.1 dX0_init_14 rfl (lv_at hl 0 rfl) ?_
  refine lv_bipush (v := 48) C.1 C.2.1 dX0_init_15 (by decide) ?_
  refine bi_newI C hA hS 48 dX0_init_17 rfl rfl rfl (fun q1 H hS => ?_)
  refine bi_put (ws2 := [(h0, .inr (0, [.int 0, .int 0, .ref q1])), (q1, .inl (cI, 48, .inl (fun _ => 0)))]) C hS dX0_init_19 bf_X0_18 rfl rfl rfl (Nat.le_of_ble_eq_true rfl) rfl (fun H locs hS => ?_)
  exact kR 22 H locs (fun k => [q1].getD k 0) dX0_init_22 hS
set_option maxRecDepth 100000 in
theorem bc_X2 (l : Launch) (D : va_G) (cI cL : ClassId) : bi_Con l D cI cL mX2_init 3 168 [] 1 fs_X2 (fun h0 u => [(h0, .inr (1, [.ref (u 0), .ref (u 1), .ref (u 2)])), ((u 0), .inl (cI, 4, .inl (fun _ => 0))), ((u 1), .inl (cI, 4, .inl (fun _ => 0))), ((u 2), .inl (cL, 160, .inr (.inl (fun _ => 0))))]) := by
  refine bi_con pn_X2 rfl rfl rfl ?_
  intro h0 A p e s m args below meth c ls Q C hA hl hS kR
  refine lv_aload_n C.1 C.2.1 dX2_init_0 rfl (lv_at hl 0 rfl) ?_
  refine bi_obj C hl rfl dX2_init_1 bo_X2 rfl rfl ?_
  refine lv_aload_n C.1 C.2.1 dX2_init_4 rfl (lv_at hl 0 rfl) ?_
  refine lv_iconst (v := 4) C.1 C.2.1 dX2_init_5 (by decide) ?_
  refine bi_newI C hA hS 4 dX2_init_6 rfl rfl rfl (fun q1 H hS => ?_)
  refine bi_put (ws2 := [(h0, .inr (1, [.ref q1, .null, .null])), (q1, .inl (cI, 4, .inl (fun _ => 0)))]) C hS dX2_init_8 bf_X2_9 rfl rfl rfl (Nat.le_of_ble_eq_true rfl) rfl (fun H locs hS => ?_)
  refine lv_aload_n C.1 C.2.1 dX2_init_11 rfl (lv_at hl 0 rfl) ?_
  refine lv_iconst (v := 4) C.1 C.2.1 dX2_init_12 (by decide) ?_
  refine bi_newI C hA hS 4 dX2_init_13 rfl rfl rfl (fun q2 H hS => ?_)
  refine bi_put (ws2 := [(h0, .inr (1, [.ref q1, .ref q2, .null])), (q1, .inl (cI, 4, .inl (fun _ => 0))), (q2, .inl (cI, 4, .inl (fun _ => 0)))]) C hS dX2_init_15 bf_X2_13 rfl rfl rfl (Nat.le_of_ble_eq_true rfl) rfl (fun H locs hS => ?_)
  refine lv_aload_n C.1 C.2.1 dX2_init_18 rfl (lv_at hl 0 rfl) ?_
  refine lv_sipush (v := 160) C.1 C.2.1 dX2_init_19 (by decide) ?_
  refine bi_newL C hA hS 160 dX2_init_22 rfl rfl rfl (fun q3 H hS => ?_)
  refine bi_put (ws2 := [(h0, .inr (1, [.ref q1, .ref q2, .ref q3])), (q1, .inl (cI, 4, .inl (fun _ => 0))), (q2, .inl (cI, 4, .inl (fun _ => 0))), (q3, .inl (cL, 160, .inr (.inl (fun _ => 0))))]) C hS dX2_init_24 bf_X2_16 rfl rfl rfl (Nat.le_of_ble_eq_true rfl) rfl (fun H locs hS => ?_)
  exact kR 27 H locs (fun k => [q1, q2, q3].getD k 0) dX2_init_27 hS
set_option maxRecDepth 100000 in
theorem bc_X3 (l : Launch) (D : va_G) (cI cL : ClassId) : bi_Con l D cI cL mX3_init 4 630 [] 2 fs_X3 (fun h0 u => [(h0, .inr (2, [.int 0, .int 0, .int 0, .ref (u 0), .ref (u 1), .ref (u 2), .ref (u 3)])), ((u 0), .inl (cI, 6, .inl (fun _ => 0))), ((u 1), .inl (cI, 48, .inl (fun _ => 0))), ((u 2), .inl (cI, 288, .inl (fun _ => 0))), ((u 3), .inl (cI, 288, .inl (fun _ => 0)))]) := by
  refine bi_con pn_X3 rfl rfl rfl ?_
  intro h0 A p e s m args below meth c ls Q C hA hl hS kR
  refine lv_aload_n C.1 C.2.1 dX3_init_0 rfl (lv_at hl 0 rfl) ?_
  refine bi_obj C hl rfl dX3_init_1 bo_X3 rfl rfl ?_
  refine lv_aload_n C.1 C.2.1 dX3_init_4 rfl (lv_at hl 0 rfl) ?_
  refine lv_iconst (v := 0) C.1 C.2.1 dX3_init_5 (by decide) ?_
  refine bi_put (ws2 := [(h0, .inr (2, [.int 0, .int 0, .int 0, .null, .null, .null, .null]))]) C hS dX3_init_6 bf_X3_9 rfl rfl rfl (Nat.le_of_ble_eq_true rfl) rfl (fun H locs hS => ?_)
  refine lv_aload_n C.1 C.2.1 dX3_init_9 rfl (lv_at hl 0 rfl) ?_
  refine lv_iconst (v := 0) C.1 C.2.1 dX3_init_10 (by decide) ?_
  refine bi_put (ws2 := [(h0, .inr (2, [.int 0, .int 0, .int 0, .null, .null, .null, .null]))]) C hS dX3_init_11 bf_X3_15 rfl rfl rfl (Nat.le_of_ble_eq_true rfl) rfl (fun H locs hS => ?_)
  refine lv_aload_n C.1 C.2.1 dX3_init_14 rfl (lv_at hl 0 rfl) ?_
  refine lv_iconst (v := 0) C.1 C.2.1 dX3_init_15 (by decide) ?_
  refine bi_put (ws2 := [(h0, .inr (2, [.int 0, .int 0, .int 0, .null, .null, .null, .null]))]) C hS dX3_init_16 bf_X3_18 rfl rfl rfl (Nat.le_of_ble_eq_true rfl) rfl (fun H locs hS => ?_)
  refine lv_aload_n C.1 C.2.1 dX3_init_19 rfl (lv_at hl 0 rfl) ?_
  refine lv_bipush (v := 6) C.1 C.2.1 dX3_init_20 (by decide) ?_
  refine bi_newI C hA hS 6 dX3_init_22 rfl rfl rfl (fun q1 H hS => ?_)
  refine bi_put (ws2 := [(h0, .inr (2, [.int 0, .int 0, .int 0, .ref q1, .null, .null, .null])), (q1, .inl (cI, 6, .inl (fun _ => 0)))]) C hS dX3_init_24 bf_X3_21 rfl rfl rfl (Nat.le_of_ble_eq_true rfl) rfl (fun H locs hS => ?_)
  refine lv_aload_n C.1 C.2.1 dX3_init_27 rfl (lv_at hl 0 rfl) ?_
  refine lv_bipush (v := 48) C.1 C.2.1 dX3_init_28 (by decide) ?_
  refine bi_newI C hA hS 48 dX3_init_30 rfl rfl rfl (fun q2 H hS => ?_)
  refine bi_put (ws2 := [(h0, .inr (2, [.int 0, .int 0, .int 0, .ref q1, .ref q2, .null, .null])), (q1, .inl (cI, 6, .inl (fun _ => 0))), (q2, .inl (cI, 48, .inl (fun _ => 0)))]) C hS dX3_init_32 bf_X3_25 rfl rfl rfl (Nat.le_of_ble_eq_true rfl) rfl (fun H locs hS => ?_)
  refine lv_aload_n C.1 C.2.1 dX3_init_35 rfl (lv_at hl 0 rfl) ?_
  refine lv_sipush (v := 288) C.1 C.2.1 dX3_init_36 (by decide) ?_
  refine bi_newI C hA hS 288 dX3_init_39 rfl rfl rfl (fun q3 H hS => ?_)
  refine bi_put (ws2 := [(h0, .inr (2, [.int 0, .int 0, .int 0, .ref q1, .ref q2, .ref q3, .null])), (q1, .inl (cI, 6, .inl (fun _ => 0))), (q2, .inl (cI, 48, .inl (fun _ => 0))), (q3, .inl (cI, 288, .inl (fun _ => 0)))]) C hS dX3_init_41 bf_X3_28 rfl rfl rfl (Nat.le_of_ble_eq_true rfl) rfl (fun H locs hS => ?_)
  refine lv_aload_n C.1 C.2.1 dX3_init_44 rfl (lv_at hl 0 rfl) ?_
  refine lv_sipush (v := 288) C.1 C.2.1 dX3_init_45 (by decide) ?_
  refine bi_newI C hA hS 288 dX3_init_48 rfl rfl rfl (fun q4 H hS => ?_)
  refine bi_put (ws2 := [(h0, .inr (2, [.int 0, .int 0, .int 0, .ref q1, .ref q2, .ref q3, .ref q4])), (q1, .inl (cI, 6, .inl (fun _ => 0))), (q2, .inl (cI, 48, .inl (fun _ => 0))), (q3, .inl (cI, 288, .inl (fun _ => 0))), (q4, .inl (cI, 288, .inl (fun _ => 0)))]) C hS dX3_init_50 bf_X3_31 rfl rfl rfl (Nat.le_of_ble_eq_true rfl) rfl (fun H locs hS => ?_)
  exact kR 53 H locs (fun k => [q1, q2, q3, q4].getD k 0) dX3_init_53 hS
set_option maxRecDepth 100000 in
theorem bc_X4 (l : Launch) (D : va_G) (cI cL : ClassId) : bi_Con l D cI cL mX4_init 1 120 [] 3 fs_X4 (fun h0 u => [(h0, .inr (3, [.int 0, .int 0, .int 0, .int 0, .int 0, .ref (u 0)])), ((u 0), .inl (cI, 120, .inl (fun _ => 0)))]) := by
  refine bi_con pn_X4 rfl rfl rfl ?_
  intro h0 A p e s m args below meth c ls Q C hA hl hS kR
  refine lv_aload_n C.1 C.2.1 dX4_init_0 rfl (lv_at hl 0 rfl) ?_
  refine bi_obj C hl rfl dX4_init_1 bo_X4 rfl rfl ?_
  refine lv_aload_n C.1 C.2.1 dX4_init_4 rfl (lv_at hl 0 rfl) ?_
  refine lv_iconst (v := 0) C.1 C.2.1 dX4_init_5 (by decide) ?_
  refine bi_put (ws2 := [(h0, .inr (3, [.int 0, .int 0, .int 0, .int 0, .int 0, .null]))]) C hS dX4_init_6 bf_X4_7 rfl rfl rfl (Nat.le_of_ble_eq_true rfl) rfl (fun H locs hS => ?_)
  refine lv_aload_n C.1 C.2.1 dX4_init_9 rfl (lv_at hl 0 rfl) ?_
  refine lv_iconst (v := 0) C.1 C.2.1 dX4_init_10 (by decide) ?_
  refine bi_put (ws2 := [(h0, .inr (3, [.int 0, .int 0, .int 0, .int 0, .int 0, .null]))]) C hS dX4_init_11 bf_X4_13 rfl rfl rfl (Nat.le_of_ble_eq_true rfl) rfl (fun H locs hS => ?_)
  refine lv_aload_n C.1 C.2.1 dX4_init_14 rfl (lv_at hl 0 rfl) ?_
  refine lv_iconst (v := 0) C.1 C.2.1 dX4_init_15 (by decide) ?_
  refine bi_put (ws2 := [(h0, .inr (3, [.int 0, .int 0, .int 0, .int 0, .int 0, .null]))]) C hS dX4_init_16 bf_X4_16 rfl rfl rfl (Nat.le_of_ble_eq_true rfl) rfl (fun H locs hS => ?_)
  refine lv_aload_n C.1 C.2.1 dX4_init_19 rfl (lv_at hl 0 rfl) ?_
  refine lv_iconst (v := 0) C.1 C.2.1 dX4_init_20 (by decide) ?_
  refine bi_put (ws2 := [(h0, .inr (3, [.int 0, .int 0, .int 0, .int 0, .int 0, .null]))]) C hS dX4_init_21 bf_X4_19 rfl rfl rfl (Nat.le_of_ble_eq_true rfl) rfl (fun H locs hS => ?_)
  refine lv_aload_n C.1 C.2.1 dX4_init_24 rfl (lv_at hl 0 rfl) ?_
  refine lv_iconst (v := 0) C.1 C.2.1 dX4_init_25 (by decide) ?_
  refine bi_put (ws2 := [(h0, .inr (3, [.int 0, .int 0, .int 0, .int 0, .int 0, .null]))]) C hS dX4_init_26 bf_X4_22 rfl rfl rfl (Nat.le_of_ble_eq_true rfl) rfl (fun H locs hS => ?_)
  refine lv_aload_n C.1 C.2.1 dX4_init_29 rfl (lv_at hl 0 rfl) ?_
  refine lv_bipush (v := 120) C.1 C.2.1 dX4_init_30 (by decide) ?_
  refine bi_newI C hA hS 120 dX4_init_32 rfl rfl rfl (fun q1 H hS => ?_)
  refine bi_put (ws2 := [(h0, .inr (3, [.int 0, .int 0, .int 0, .int 0, .int 0, .ref q1])), (q1, .inl (cI, 120, .inl (fun _ => 0)))]) C hS dX4_init_34 bf_X4_25 rfl rfl rfl (Nat.le_of_ble_eq_true rfl) rfl (fun H locs hS => ?_)
  exact kR 37 H locs (fun k => [q1].getD k 0) dX4_init_37 hS
set_option maxRecDepth 100000 in
theorem bc_X5 (l : Launch) (D : va_G) (cI cL : ClassId) : bi_Con l D cI cL mX5_init 0 0 [] 4 fs_X5 (fun h0 u => [(h0, .inr (4, [.int 0, .int 0, .int 0, .int 0, .int 0, .int 0, .int 0, .int 0, .int 0]))]) := by
  refine bi_con pn_X5 rfl rfl rfl ?_
  intro h0 A p e s m args below meth c ls Q C hA hl hS kR
  refine lv_aload_n C.1 C.2.1 dX5_init_0 rfl (lv_at hl 0 rfl) ?_
  refine bi_obj C hl rfl dX5_init_1 bo_X5 rfl rfl ?_
  refine lv_aload_n C.1 C.2.1 dX5_init_4 rfl (lv_at hl 0 rfl) ?_
  refine lv_iconst (v := 0) C.1 C.2.1 dX5_init_5 (by decide) ?_
  refine bi_put (ws2 := [(h0, .inr (4, [.int 0, .int 0, .int 0, .int 0, .int 0, .int 0, .int 0, .int 0, .int 0]))]) C hS dX5_init_6 bf_X5_9 rfl rfl rfl (Nat.le_of_ble_eq_true rfl) rfl (fun H locs hS => ?_)
  refine lv_aload_n C.1 C.2.1 dX5_init_9 rfl (lv_at hl 0 rfl) ?_
  refine lv_iconst (v := 0) C.1 C.2.1 dX5_init_10 (by decide) ?_
  refine bi_put (ws2 := [(h0, .inr (4, [.int 0, .int 0, .int 0, .int 0, .int 0, .int 0, .int 0, .int 0, .int 0]))]) C hS dX5_init_11 bf_X5_15 rfl rfl rfl (Nat.le_of_ble_eq_true rfl) rfl (fun H locs hS => ?_)
  refine lv_aload_n C.1 C.2.1 dX5_init_14 rfl (lv_at hl 0 rfl) ?_
  refine lv_iconst (v := 0) C.1 C.2.1 dX5_init_15 (by decide) ?_
  refine bi_put (ws2 := [(h0, .inr (4, [.int 0, .int 0, .int 0, .int 0, .int 0, .int 0, .int 0, .int 0, .int 0]))]) C hS dX5_init_16 bf_X5_18 rfl rfl rfl (Nat.le_of_ble_eq_true rfl) rfl (fun H locs hS => ?_)
  refine lv_aload_n C.1 C.2.1 dX5_init_19 rfl (lv_at hl 0 rfl) ?_
  refine lv_iconst (v := 0) C.1 C.2.1 dX5_init_20 (by decide) ?_
  refine bi_put (ws2 := [(h0, .inr (4, [.int 0, .int 0, .int 0, .int 0, .int 0, .int 0, .int 0, .int 0, .int 0]))]) C hS dX5_init_21 bf_X5_21 rfl rfl rfl (Nat.le_of_ble_eq_true rfl) rfl (fun H locs hS => ?_)
  refine lv_aload_n C.1 C.2.1 dX5_init_24 rfl (lv_at hl 0 rfl) ?_
  refine lv_iconst (v := 0) C.1 C.2.1 dX5_init_25 (by decide) ?_
  refine bi_put (ws2 := [(h0, .inr (4, [.int 0, .int 0, .int 0, .int 0, .int 0, .int 0, .int 0, .int 0, .int 0]))]) C hS dX5_init_26 bf_X5_24 rfl rfl rfl (Nat.le_of_ble_eq_true rfl) rfl (fun H locs hS => ?_)
  refine lv_aload_n C.1 C.2.1 dX5_init_29 rfl (lv_at hl 0 rfl) ?_
  refine lv_iconst (v := 0) C.1 C.2.1 dX5_init_30 (by decide) ?_
  refine bi_put (ws2 := [(h0, .inr (4, [.int 0, .int 0, .int 0, .int 0, .int 0, .int 0, .int 0, .int 0, .int 0]))]) C hS dX5_init_31 bf_X5_27 rfl rfl rfl (Nat.le_of_ble_eq_true rfl) rfl (fun H locs hS => ?_)
  refine lv_aload_n C.1 C.2.1 dX5_init_34 rfl (lv_at hl 0 rfl) ?_
  refine lv_iconst (v := 0) C.1 C.2.1 dX5_init_35 (by decide) ?_
  refine bi_put (ws2 := [(h0, .inr (4, [.int 0, .int 0, .int 0, .int 0, .int 0, .int 0, .int 0, .int 0, .int 0]))]) C hS dX5_init_36 bf_X5_30 rfl rfl rfl (Nat.le_of_ble_eq_true rfl) rfl (fun H locs hS => ?_)
  refine lv_aload_n C.1 C.2.1 dX5_init_39 rfl (lv_at hl 0 rfl) ?_
  refine lv_iconst (v := 0) C.1 C.2.1 dX5_init_40 (by decide) ?_
  refine bi_put (ws2 := [(h0, .inr (4, [.int 0, .int 0, .int 0, .int 0, .int 0, .int 0, .int 0, .int 0, .int 0]))]) C hS dX5_init_41 bf_X5_33 rfl rfl rfl (Nat.le_of_ble_eq_true rfl) rfl (fun H locs hS => ?_)
  refine lv_aload_n C.1 C.2.1 dX5_init_44 rfl (lv_at hl 0 rfl) ?_
  refine lv_iconst (v := 0) C.1 C.2.1 dX5_init_45 (by decide) ?_
  refine bi_put (ws2 := [(h0, .inr (4, [.int 0, .int 0, .int 0, .int 0, .int 0, .int 0, .int 0, .int 0, .int 0]))]) C hS dX5_init_46 bf_X5_36 rfl rfl rfl (Nat.le_of_ble_eq_true rfl) rfl (fun H locs hS => ?_)
  exact kR 49 H locs (fun k => [].getD k 0) dX5_init_49 hS
set_option maxRecDepth 100000 in
theorem bc_X6 (l : Launch) (D : va_G) (cI cL : ClassId) : bi_Con l D cI cL mX6_init 1 8 [] 5 fs_X6 (fun h0 u => [(h0, .inr (5, [.int 0, .int 0, .ref (u 0)])), ((u 0), .inl (cI, 8, .inl (fun _ => 0)))]) := by
  refine bi_con pn_X6 rfl rfl rfl ?_
  intro h0 A p e s m args below meth c ls Q C hA hl hS kR
  refine lv_aload_n C.1 C.2.1 dX6_init_0 rfl (lv_at hl 0 rfl) ?_
  refine bi_obj C hl rfl dX6_init_1 bo_X6 rfl rfl ?_
  refine lv_aload_n C.1 C.2.1 dX6_init_4 rfl (lv_at hl 0 rfl) ?_
  refine lv_iconst (v := 0) C.1 C.2.1 dX6_init_5 (by decide) ?_
  refine bi_put (ws2 := [(h0, .inr (5, [.int 0, .int 0, .null]))]) C hS dX6_init_6 bf_X6_9 rfl rfl rfl (Nat.le_of_ble_eq_true rfl) rfl (fun H locs hS => ?_)
  refine lv_aload_n C.1 C.2.1 dX6_init_9 rfl (lv_at hl 0 rfl) ?_
  refine lv_iconst (v := 0) C.1 C.2.1 dX6_init_10 (by decide) ?_
  refine bi_put (ws2 := [(h0, .inr (5, [.int 0, .int 0, .null]))]) C hS dX6_init_11 bf_X6_15 rfl rfl rfl (Nat.le_of_ble_eq_true rfl) rfl (fun H locs hS => ?_)
  refine lv_aload_n C.1 C.2.1 dX6_init_14 rfl (lv_at hl 0 rfl) ?_
  refine lv_bipush (v := 8) C.1 C.2.1 dX6_init_15 (by decide) ?_
  refine bi_newI C hA hS 8 dX6_init_17 rfl rfl rfl (fun q1 H hS => ?_)
  refine bi_put (ws2 := [(h0, .inr (5, [.int 0, .int 0, .ref q1])), (q1, .inl (cI, 8, .inl (fun _ => 0)))]) C hS dX6_init_19 bf_X6_18 rfl rfl rfl (Nat.le_of_ble_eq_true rfl) rfl (fun H locs hS => ?_)
  exact kR 22 H locs (fun k => [q1].getD k 0) dX6_init_22 hS
def bl_b (h0 : Nat) (u : Nat → Nat) : Nat → Nat
  | 0 => h0
  | k + 1 => u k
set_option maxRecDepth 100000 in
set_option maxHeartbeats 4000000 in
theorem bc_X7 (l : Launch) (D : va_G) (cI cL : ClassId) (up : Nat → Nat) : bi_Con l D cI cL mX7_init 23 1655 bl_nest 6 fs_X7 (fun h0 u => js_wl (l, D.1, D.2, cI, cL, bl_ad (bl_b h0 u) up) shC js_S0) := by
  refine bi_con pn_X7 rfl rfl rfl ?_
  intro h0 A p e s m args below meth c ls Q C hA hl hS kR
  refine lv_aload_n C.1 C.2.1 dX7_init_0 rfl (lv_at hl 0 rfl) ?_
  refine bi_obj C hl rfl dX7_init_1 bo_X7 rfl rfl ?_
  refine lv_aload_n C.1 C.2.1 dX7_init_4 rfl (lv_at hl 0 rfl) ?_
  refine bi_new C.1 C.2.1 C.2.2.2.1 C.2.2.2.2.1 C.2.2.2.2.2.1 hA hS dX7_init_5 bn_X7_7 rfl rfl (fun q1 H hS => ?_)
  refine lv_dup C.1 C.2.1 dX7_init_8 rfl ?_
  refine bi_callN (mk := mX3_init) C hA hS hl (bc_X3 l D cI cL) dX7_init_9 (List.mem_of_getElem? (i := 0) rfl) bm_X3_init bv_X3_init rfl rfl rfl (fun u1 H locs hS => ?_)
  refine bi_put (ws2 := [(h0, .inr (6, [.ref q1, .null, .int 0, .null, .null, .null, .null, .null, .null, .null])), (q1, .inr (2, [.int 0, .int 0, .int 0, .ref (u1 0), .ref (u1 1), .ref (u1 2), .ref (u1 3)])), ((u1 0), .inl (cI, 6, .inl (fun _ => 0))), ((u1 1), .inl (cI, 48, .inl (fun _ => 0))), ((u1 2), .inl (cI, 288, .inl (fun _ => 0))), ((u1 3), .inl (cI, 288, .inl (fun _ => 0)))]) C hS dX7_init_12 bf_X7_10 rfl rfl rfl (Nat.le_of_ble_eq_true rfl) rfl (fun H locs hS => ?_)
  refine lv_aload_n C.1 C.2.1 dX7_init_15 rfl (lv_at hl 0 rfl) ?_
  refine bi_new C.1 C.2.1 C.2.2.2.1 C.2.2.2.2.1 C.2.2.2.2.2.1 hA hS dX7_init_16 bn_X7_7 rfl rfl (fun q2 H hS => ?_)
  refine lv_dup C.1 C.2.1 dX7_init_19 rfl ?_
  refine bi_callN (mk := mX3_init) C hA hS hl (bc_X3 l D cI cL) dX7_init_20 (List.mem_of_getElem? (i := 0) rfl) bm_X3_init bv_X3_init rfl rfl rfl (fun u2 H locs hS => ?_)
  refine bi_put (ws2 := [(h0, .inr (6, [.ref q1, .ref q2, .int 0, .null, .null, .null, .null, .null, .null, .null])), (q1, .inr (2, [.int 0, .int 0, .int 0, .ref (u1 0), .ref (u1 1), .ref (u1 2), .ref (u1 3)])), ((u1 0), .inl (cI, 6, .inl (fun _ => 0))), ((u1 1), .inl (cI, 48, .inl (fun _ => 0))), ((u1 2), .inl (cI, 288, .inl (fun _ => 0))), ((u1 3), .inl (cI, 288, .inl (fun _ => 0))), (q2, .inr (2, [.int 0, .int 0, .int 0, .ref (u2 0), .ref (u2 1), .ref (u2 2), .ref (u2 3)])), ((u2 0), .inl (cI, 6, .inl (fun _ => 0))), ((u2 1), .inl (cI, 48, .inl (fun _ => 0))), ((u2 2), .inl (cI, 288, .inl (fun _ => 0))), ((u2 3), .inl (cI, 288, .inl (fun _ => 0)))]) C hS dX7_init_23 bf_X7_16 rfl rfl rfl (Nat.le_of_ble_eq_true rfl) rfl (fun H locs hS => ?_)
  refine lv_aload_n C.1 C.2.1 dX7_init_26 rfl (lv_at hl 0 rfl) ?_
  refine lv_iconst (v := 0) C.1 C.2.1 dX7_init_27 (by decide) ?_
  refine bi_put (ws2 := [(h0, .inr (6, [.ref q1, .ref q2, .int 0, .null, .null, .null, .null, .null, .null, .null])), (q1, .inr (2, [.int 0, .int 0, .int 0, .ref (u1 0), .ref (u1 1), .ref (u1 2), .ref (u1 3)])), ((u1 0), .inl (cI, 6, .inl (fun _ => 0))), ((u1 1), .inl (cI, 48, .inl (fun _ => 0))), ((u1 2), .inl (cI, 288, .inl (fun _ => 0))), ((u1 3), .inl (cI, 288, .inl (fun _ => 0))), (q2, .inr (2, [.int 0, .int 0, .int 0, .ref (u2 0), .ref (u2 1), .ref (u2 2), .ref (u2 3)])), ((u2 0), .inl (cI, 6, .inl (fun _ => 0))), ((u2 1), .inl (cI, 48, .inl (fun _ => 0))), ((u2 2), .inl (cI, 288, .inl (fun _ => 0))), ((u2 3), .inl (cI, 288, .inl (fun _ => 0)))]) C hS dX7_init_28 bf_X7_19 rfl nb_0.1 nb_0.2 (Nat.le_of_ble_eq_true rfl) rfl (fun H locs hS => ?_)
  refine lv_aload_n C.1 C.2.1 dX7_init_31 rfl (lv_at hl 0 rfl) ?_
  refine bi_new C.1 C.2.1 C.2.2.2.1 C.2.2.2.2.1 C.2.2.2.2.2.1 hA hS dX7_init_32 bn_X7_23 rfl rfl (fun q3 H hS => ?_)
  refine lv_dup C.1 C.2.1 dX7_init_35 rfl ?_
  refine bi_callN (mk := mX0_init) C hA hS hl (bc_X0 l D cI cL) dX7_init_36 (List.mem_of_getElem? (i := 1) rfl) bm_X0_init bv_X0_init rfl rfl rfl (fun u3 H locs hS => ?_)
  refine bi_put (ws2 := [(h0, .inr (6, [.ref q1, .ref q2, .int 0, .ref q3, .null, .null, .null, .null, .null, .null])), (q1, .inr (2, [.int 0, .int 0, .int 0, .ref (u1 0), .ref (u1 1), .ref (u1 2), .ref (u1 3)])), ((u1 0), .inl (cI, 6, .inl (fun _ => 0))), ((u1 1), .inl (cI, 48, .inl (fun _ => 0))), ((u1 2), .inl (cI, 288, .inl (fun _ => 0))), ((u1 3), .inl (cI, 288, .inl (fun _ => 0))), (q2, .inr (2, [.int 0, .int 0, .int 0, .ref (u2 0), .ref (u2 1), .ref (u2 2), .ref (u2 3)])), ((u2 0), .inl (cI, 6, .inl (fun _ => 0))), ((u2 1), .inl (cI, 48, .inl (fun _ => 0))), ((u2 2), .inl (cI, 288, .inl (fun _ => 0))), ((u2 3), .inl (cI, 288, .inl (fun _ => 0))), (q3, .inr (0, [.int 0, .int 0, .ref (u3 0)])), ((u3 0), .inl (cI, 48, .inl (fun _ => 0)))]) C hS dX7_init_39 bf_X7_26 rfl rfl rfl (Nat.le_of_ble_eq_true rfl) rfl (fun H locs hS => ?_)
  refine lv_aload_n C.1 C.2.1 dX7_init_42 rfl (lv_at hl 0 rfl) ?_
  refine bi_new C.1 C.2.1 C.2.2.2.1 C.2.2.2.2.1 C.2.2.2.2.2.1 hA hS dX7_init_43 bn_X7_30 rfl rfl (fun q4 H hS => ?_)
  refine lv_dup C.1 C.2.1 dX7_init_46 rfl ?_
  refine bi_callN (mk := mX6_init) C hA hS hl (bc_X6 l D cI cL) dX7_init_47 (List.mem_of_getElem? (i := 2) rfl) bm_X6_init bv_X6_init rfl rfl rfl (fun u4 H locs hS => ?_)
  refine bi_put (ws2 := [(h0, .inr (6, [.ref q1, .ref q2, .int 0, .ref q3, .ref q4, .null, .null, .null, .null, .null])), (q1, .inr (2, [.int 0, .int 0, .int 0, .ref (u1 0), .ref (u1 1), .ref (u1 2), .ref (u1 3)])), ((u1 0), .inl (cI, 6, .inl (fun _ => 0))), ((u1 1), .inl (cI, 48, .inl (fun _ => 0))), ((u1 2), .inl (cI, 288, .inl (fun _ => 0))), ((u1 3), .inl (cI, 288, .inl (fun _ => 0))), (q2, .inr (2, [.int 0, .int 0, .int 0, .ref (u2 0), .ref (u2 1), .ref (u2 2), .ref (u2 3)])), ((u2 0), .inl (cI, 6, .inl (fun _ => 0))), ((u2 1), .inl (cI, 48, .inl (fun _ => 0))), ((u2 2), .inl (cI, 288, .inl (fun _ => 0))), ((u2 3), .inl (cI, 288, .inl (fun _ => 0))), (q3, .inr (0, [.int 0, .int 0, .ref (u3 0)])), ((u3 0), .inl (cI, 48, .inl (fun _ => 0))), (q4, .inr (5, [.int 0, .int 0, .ref (u4 0)])), ((u4 0), .inl (cI, 8, .inl (fun _ => 0)))]) C hS dX7_init_50 bf_X7_33 rfl rfl rfl (Nat.le_of_ble_eq_true rfl) rfl (fun H locs hS => ?_)
  refine lv_aload_n C.1 C.2.1 dX7_init_53 rfl (lv_at hl 0 rfl) ?_
  refine bi_new C.1 C.2.1 C.2.2.2.1 C.2.2.2.2.1 C.2.2.2.2.2.1 hA hS dX7_init_54 bn_X7_37 rfl rfl (fun q5 H hS => ?_)
  refine lv_dup C.1 C.2.1 dX7_init_57 rfl ?_
  refine bi_callN (mk := mX4_init) C hA hS hl (bc_X4 l D cI cL) dX7_init_58 (List.mem_of_getElem? (i := 3) rfl) bm_X4_init bv_X4_init rfl rfl rfl (fun u5 H locs hS => ?_)
  refine bi_put (ws2 := [(h0, .inr (6, [.ref q1, .ref q2, .int 0, .ref q3, .ref q4, .ref q5, .null, .null, .null, .null])), (q1, .inr (2, [.int 0, .int 0, .int 0, .ref (u1 0), .ref (u1 1), .ref (u1 2), .ref (u1 3)])), ((u1 0), .inl (cI, 6, .inl (fun _ => 0))), ((u1 1), .inl (cI, 48, .inl (fun _ => 0))), ((u1 2), .inl (cI, 288, .inl (fun _ => 0))), ((u1 3), .inl (cI, 288, .inl (fun _ => 0))), (q2, .inr (2, [.int 0, .int 0, .int 0, .ref (u2 0), .ref (u2 1), .ref (u2 2), .ref (u2 3)])), ((u2 0), .inl (cI, 6, .inl (fun _ => 0))), ((u2 1), .inl (cI, 48, .inl (fun _ => 0))), ((u2 2), .inl (cI, 288, .inl (fun _ => 0))), ((u2 3), .inl (cI, 288, .inl (fun _ => 0))), (q3, .inr (0, [.int 0, .int 0, .ref (u3 0)])), ((u3 0), .inl (cI, 48, .inl (fun _ => 0))), (q4, .inr (5, [.int 0, .int 0, .ref (u4 0)])), ((u4 0), .inl (cI, 8, .inl (fun _ => 0))), (q5, .inr (3, [.int 0, .int 0, .int 0, .int 0, .int 0, .ref (u5 0)])), ((u5 0), .inl (cI, 120, .inl (fun _ => 0)))]) C hS dX7_init_61 bf_X7_40 rfl rfl rfl (Nat.le_of_ble_eq_true rfl) rfl (fun H locs hS => ?_)
  refine lv_aload_n C.1 C.2.1 dX7_init_64 rfl (lv_at hl 0 rfl) ?_
  refine bi_new C.1 C.2.1 C.2.2.2.1 C.2.2.2.2.1 C.2.2.2.2.2.1 hA hS dX7_init_65 bn_X7_44 rfl rfl (fun q6 H hS => ?_)
  refine lv_dup C.1 C.2.1 dX7_init_68 rfl ?_
  refine bi_callN (mk := mX5_init) C hA hS hl (bc_X5 l D cI cL) dX7_init_69 (List.mem_of_getElem? (i := 4) rfl) bm_X5_init bv_X5_init rfl rfl rfl (fun u6 H locs hS => ?_)
  refine bi_put (ws2 := [(h0, .inr (6, [.ref q1, .ref q2, .int 0, .ref q3, .ref q4, .ref q5, .ref q6, .null, .null, .null])), (q1, .inr (2, [.int 0, .int 0, .int 0, .ref (u1 0), .ref (u1 1), .ref (u1 2), .ref (u1 3)])), ((u1 0), .inl (cI, 6, .inl (fun _ => 0))), ((u1 1), .inl (cI, 48, .inl (fun _ => 0))), ((u1 2), .inl (cI, 288, .inl (fun _ => 0))), ((u1 3), .inl (cI, 288, .inl (fun _ => 0))), (q2, .inr (2, [.int 0, .int 0, .int 0, .ref (u2 0), .ref (u2 1), .ref (u2 2), .ref (u2 3)])), ((u2 0), .inl (cI, 6, .inl (fun _ => 0))), ((u2 1), .inl (cI, 48, .inl (fun _ => 0))), ((u2 2), .inl (cI, 288, .inl (fun _ => 0))), ((u2 3), .inl (cI, 288, .inl (fun _ => 0))), (q3, .inr (0, [.int 0, .int 0, .ref (u3 0)])), ((u3 0), .inl (cI, 48, .inl (fun _ => 0))), (q4, .inr (5, [.int 0, .int 0, .ref (u4 0)])), ((u4 0), .inl (cI, 8, .inl (fun _ => 0))), (q5, .inr (3, [.int 0, .int 0, .int 0, .int 0, .int 0, .ref (u5 0)])), ((u5 0), .inl (cI, 120, .inl (fun _ => 0))), (q6, .inr (4, [.int 0, .int 0, .int 0, .int 0, .int 0, .int 0, .int 0, .int 0, .int 0]))]) C hS dX7_init_72 bf_X7_47 rfl rfl rfl (Nat.le_of_ble_eq_true rfl) rfl (fun H locs hS => ?_)
  refine lv_aload_n C.1 C.2.1 dX7_init_75 rfl (lv_at hl 0 rfl) ?_
  refine bi_new C.1 C.2.1 C.2.2.2.1 C.2.2.2.2.1 C.2.2.2.2.2.1 hA hS dX7_init_76 bn_X7_51 rfl rfl (fun q7 H hS => ?_)
  refine lv_dup C.1 C.2.1 dX7_init_79 rfl ?_
  refine bi_callN (mk := mX2_init) C hA hS hl (bc_X2 l D cI cL) dX7_init_80 (List.mem_of_getElem? (i := 5) rfl) bm_X2_init bv_X2_init rfl rfl rfl (fun u7 H locs hS => ?_)
  refine bi_put (ws2 := [(h0, .inr (6, [.ref q1, .ref q2, .int 0, .ref q3, .ref q4, .ref q5, .ref q6, .ref q7, .null, .null])), (q1, .inr (2, [.int 0, .int 0, .int 0, .ref (u1 0), .ref (u1 1), .ref (u1 2), .ref (u1 3)])), ((u1 0), .inl (cI, 6, .inl (fun _ => 0))), ((u1 1), .inl (cI, 48, .inl (fun _ => 0))), ((u1 2), .inl (cI, 288, .inl (fun _ => 0))), ((u1 3), .inl (cI, 288, .inl (fun _ => 0))), (q2, .inr (2, [.int 0, .int 0, .int 0, .ref (u2 0), .ref (u2 1), .ref (u2 2), .ref (u2 3)])), ((u2 0), .inl (cI, 6, .inl (fun _ => 0))), ((u2 1), .inl (cI, 48, .inl (fun _ => 0))), ((u2 2), .inl (cI, 288, .inl (fun _ => 0))), ((u2 3), .inl (cI, 288, .inl (fun _ => 0))), (q3, .inr (0, [.int 0, .int 0, .ref (u3 0)])), ((u3 0), .inl (cI, 48, .inl (fun _ => 0))), (q4, .inr (5, [.int 0, .int 0, .ref (u4 0)])), ((u4 0), .inl (cI, 8, .inl (fun _ => 0))), (q5, .inr (3, [.int 0, .int 0, .int 0, .int 0, .int 0, .ref (u5 0)])), ((u5 0), .inl (cI, 120, .inl (fun _ => 0))), (q6, .inr (4, [.int 0, .int 0, .int 0, .int 0, .int 0, .int 0, .int 0, .int 0, .int 0])), (q7, .inr (1, [.ref (u7 0), .ref (u7 1), .ref (u7 2)])), ((u7 0), .inl (cI, 4, .inl (fun _ => 0))), ((u7 1), .inl (cI, 4, .inl (fun _ => 0))), ((u7 2), .inl (cL, 160, .inr (.inl (fun _ => 0))))]) C hS dX7_init_83 bf_X7_54 rfl rfl rfl (Nat.le_of_ble_eq_true rfl) rfl (fun H locs hS => ?_)
  refine lv_aload_n C.1 C.2.1 dX7_init_86 rfl (lv_at hl 0 rfl) ?_
  refine lv_bipush (v := 7) C.1 C.2.1 dX7_init_87 (by decide) ?_
  refine bi_newI C hA hS 7 dX7_init_89 rfl rfl rfl (fun q8 H hS => ?_)
  refine bi_put (ws2 := [(h0, .inr (6, [.ref q1, .ref q2, .int 0, .ref q3, .ref q4, .ref q5, .ref q6, .ref q7, .ref q8, .null])), (q1, .inr (2, [.int 0, .int 0, .int 0, .ref (u1 0), .ref (u1 1), .ref (u1 2), .ref (u1 3)])), ((u1 0), .inl (cI, 6, .inl (fun _ => 0))), ((u1 1), .inl (cI, 48, .inl (fun _ => 0))), ((u1 2), .inl (cI, 288, .inl (fun _ => 0))), ((u1 3), .inl (cI, 288, .inl (fun _ => 0))), (q2, .inr (2, [.int 0, .int 0, .int 0, .ref (u2 0), .ref (u2 1), .ref (u2 2), .ref (u2 3)])), ((u2 0), .inl (cI, 6, .inl (fun _ => 0))), ((u2 1), .inl (cI, 48, .inl (fun _ => 0))), ((u2 2), .inl (cI, 288, .inl (fun _ => 0))), ((u2 3), .inl (cI, 288, .inl (fun _ => 0))), (q3, .inr (0, [.int 0, .int 0, .ref (u3 0)])), ((u3 0), .inl (cI, 48, .inl (fun _ => 0))), (q4, .inr (5, [.int 0, .int 0, .ref (u4 0)])), ((u4 0), .inl (cI, 8, .inl (fun _ => 0))), (q5, .inr (3, [.int 0, .int 0, .int 0, .int 0, .int 0, .ref (u5 0)])), ((u5 0), .inl (cI, 120, .inl (fun _ => 0))), (q6, .inr (4, [.int 0, .int 0, .int 0, .int 0, .int 0, .int 0, .int 0, .int 0, .int 0])), (q7, .inr (1, [.ref (u7 0), .ref (u7 1), .ref (u7 2)])), ((u7 0), .inl (cI, 4, .inl (fun _ => 0))), ((u7 1), .inl (cI, 4, .inl (fun _ => 0))), ((u7 2), .inl (cL, 160, .inr (.inl (fun _ => 0)))), (q8, .inl (cI, 7, .inl (fun _ => 0)))]) C hS dX7_init_91 bf_X7_58 rfl rfl rfl (Nat.le_of_ble_eq_true rfl) rfl (fun H locs hS => ?_)
  refine lv_aload_n C.1 C.2.1 dX7_init_94 rfl (lv_at hl 0 rfl) ?_
  refine lv_bipush (v := 6) C.1 C.2.1 dX7_init_95 (by decide) ?_
  refine bi_newI C hA hS 6 dX7_init_97 rfl rfl rfl (fun q9 H hS => ?_)
  refine bi_put (ws2 := [(h0, .inr (6, [.ref q1, .ref q2, .int 0, .ref q3, .ref q4, .ref q5, .ref q6, .ref q7, .ref q8, .ref q9])), (q1, .inr (2, [.int 0, .int 0, .int 0, .ref (u1 0), .ref (u1 1), .ref (u1 2), .ref (u1 3)])), ((u1 0), .inl (cI, 6, .inl (fun _ => 0))), ((u1 1), .inl (cI, 48, .inl (fun _ => 0))), ((u1 2), .inl (cI, 288, .inl (fun _ => 0))), ((u1 3), .inl (cI, 288, .inl (fun _ => 0))), (q2, .inr (2, [.int 0, .int 0, .int 0, .ref (u2 0), .ref (u2 1), .ref (u2 2), .ref (u2 3)])), ((u2 0), .inl (cI, 6, .inl (fun _ => 0))), ((u2 1), .inl (cI, 48, .inl (fun _ => 0))), ((u2 2), .inl (cI, 288, .inl (fun _ => 0))), ((u2 3), .inl (cI, 288, .inl (fun _ => 0))), (q3, .inr (0, [.int 0, .int 0, .ref (u3 0)])), ((u3 0), .inl (cI, 48, .inl (fun _ => 0))), (q4, .inr (5, [.int 0, .int 0, .ref (u4 0)])), ((u4 0), .inl (cI, 8, .inl (fun _ => 0))), (q5, .inr (3, [.int 0, .int 0, .int 0, .int 0, .int 0, .ref (u5 0)])), ((u5 0), .inl (cI, 120, .inl (fun _ => 0))), (q6, .inr (4, [.int 0, .int 0, .int 0, .int 0, .int 0, .int 0, .int 0, .int 0, .int 0])), (q7, .inr (1, [.ref (u7 0), .ref (u7 1), .ref (u7 2)])), ((u7 0), .inl (cI, 4, .inl (fun _ => 0))), ((u7 1), .inl (cI, 4, .inl (fun _ => 0))), ((u7 2), .inl (cL, 160, .inr (.inl (fun _ => 0)))), (q8, .inl (cI, 7, .inl (fun _ => 0))), (q9, .inl (cI, 6, .inl (fun _ => 0)))]) C hS dX7_init_99 bf_X7_62 rfl rfl rfl (Nat.le_of_ble_eq_true rfl) rfl (fun H locs hS => ?_)
  exact kR 102 H locs (fun k => [q1, u1 0, u1 1, u1 2, u1 3, q2, u2 0, u2 1, u2 2, u2 3, q3, u3 0, q4, u4 0, q5, u5 0, q6, q7, u7 0, u7 1, u7 2, q8, q9].getD k 0) dX7_init_102 hS
set_option maxRecDepth 100000 in
set_option maxHeartbeats 4000000 in
theorem bc_X8 (l : Launch) (D : va_G) (cI cL : ClassId) (up : Nat → Nat) : bi_Con l D cI cL mX8_init 11 2915 [] 7 fs_X8 (fun h0 u => js_wl (l, D.1, D.2, cI, cL, bl_ad (bl_b h0 u) up) shM js_S0) := by
  refine bi_con pn_X8 rfl rfl rfl ?_
  intro h0 A p e s m args below meth c ls Q C hA hl hS kR
  refine lv_aload_n C.1 C.2.1 dX8_init_0 rfl (lv_at hl 0 rfl) ?_
  refine bi_obj C hl rfl dX8_init_1 bo_X8 rfl rfl ?_
  refine lv_aload_n C.1 C.2.1 dX8_init_4 rfl (lv_at hl 0 rfl) ?_
  refine lv_sipush (v := 633) C.1 C.2.1 dX8_init_5 (by decide) ?_
  refine bi_newI C hA hS 633 dX8_init_8 rfl rfl rfl (fun q1 H hS => ?_)
  refine bi_put (ws2 := [(h0, .inr (7, [.ref q1, .null, .null, .null, .null, .int 0, .null, .int 0, .null, .int 0, .int 0, .int 0, .int 0, .int 0, .null, .null, .null, .null])), (q1, .inl (cI, 633, .inl (fun _ => 0)))]) C hS dX8_init_10 bf_X8_7 rfl rfl rfl (Nat.le_of_ble_eq_true rfl) rfl (fun H locs hS => ?_)
  refine lv_aload_n C.1 C.2.1 dX8_init_13 rfl (lv_at hl 0 rfl) ?_
  refine lv_sipush (v := 633) C.1 C.2.1 dX8_init_14 (by decide) ?_
  refine bi_newI C hA hS 633 dX8_init_17 rfl rfl rfl (fun q2 H hS => ?_)
  refine bi_put (ws2 := [(h0, .inr (7, [.ref q1, .ref q2, .null, .null, .null, .int 0, .null, .int 0, .null, .int 0, .int 0, .int 0, .int 0, .int 0, .null, .null, .null, .null])), (q1, .inl (cI, 633, .inl (fun _ => 0))), (q2, .inl (cI, 633, .inl (fun _ => 0)))]) C hS dX8_init_19 bf_X8_13 rfl rfl rfl (Nat.le_of_ble_eq_true rfl) rfl (fun H locs hS => ?_)
  refine lv_aload_n C.1 C.2.1 dX8_init_22 rfl (lv_at hl 0 rfl) ?_
  refine lv_sipush (v := 633) C.1 C.2.1 dX8_init_23 (by decide) ?_
  refine bi_newI C hA hS 633 dX8_init_26 rfl rfl rfl (fun q3 H hS => ?_)
  refine bi_put (ws2 := [(h0, .inr (7, [.ref q1, .ref q2, .ref q3, .null, .null, .int 0, .null, .int 0, .null, .int 0, .int 0, .int 0, .int 0, .int 0, .null, .null, .null, .null])), (q1, .inl (cI, 633, .inl (fun _ => 0))), (q2, .inl (cI, 633, .inl (fun _ => 0))), (q3, .inl (cI, 633, .inl (fun _ => 0)))]) C hS dX8_init_28 bf_X8_16 rfl rfl rfl (Nat.le_of_ble_eq_true rfl) rfl (fun H locs hS => ?_)
  refine lv_aload_n C.1 C.2.1 dX8_init_31 rfl (lv_at hl 0 rfl) ?_
  refine lv_sipush (v := 633) C.1 C.2.1 dX8_init_32 (by decide) ?_
  refine bi_newI C hA hS 633 dX8_init_35 rfl rfl rfl (fun q4 H hS => ?_)
  refine bi_put (ws2 := [(h0, .inr (7, [.ref q1, .ref q2, .ref q3, .ref q4, .null, .int 0, .null, .int 0, .null, .int 0, .int 0, .int 0, .int 0, .int 0, .null, .null, .null, .null])), (q1, .inl (cI, 633, .inl (fun _ => 0))), (q2, .inl (cI, 633, .inl (fun _ => 0))), (q3, .inl (cI, 633, .inl (fun _ => 0))), (q4, .inl (cI, 633, .inl (fun _ => 0)))]) C hS dX8_init_37 bf_X8_19 rfl rfl rfl (Nat.le_of_ble_eq_true rfl) rfl (fun H locs hS => ?_)
  refine lv_aload_n C.1 C.2.1 dX8_init_40 rfl (lv_at hl 0 rfl) ?_
  refine lv_bipush (v := 7) C.1 C.2.1 dX8_init_41 (by decide) ?_
  refine bi_newI C hA hS 7 dX8_init_43 rfl rfl rfl (fun q5 H hS => ?_)
  refine bi_put (ws2 := [(h0, .inr (7, [.ref q1, .ref q2, .ref q3, .ref q4, .ref q5, .int 0, .null, .int 0, .null, .int 0, .int 0, .int 0, .int 0, .int 0, .null, .null, .null, .null])), (q1, .inl (cI, 633, .inl (fun _ => 0))), (q2, .inl (cI, 633, .inl (fun _ => 0))), (q3, .inl (cI, 633, .inl (fun _ => 0))), (q4, .inl (cI, 633, .inl (fun _ => 0))), (q5, .inl (cI, 7, .inl (fun _ => 0)))]) C hS dX8_init_45 bf_X8_22 rfl rfl rfl (Nat.le_of_ble_eq_true rfl) rfl (fun H locs hS => ?_)
  refine lv_aload_n C.1 C.2.1 dX8_init_48 rfl (lv_at hl 0 rfl) ?_
  refine lv_bipush (v := 48) C.1 C.2.1 dX8_init_49 (by decide) ?_
  refine bi_newI C hA hS 48 dX8_init_51 rfl rfl rfl (fun q6 H hS => ?_)
  refine bi_put (ws2 := [(h0, .inr (7, [.ref q1, .ref q2, .ref q3, .ref q4, .ref q5, .int 0, .ref q6, .int 0, .null, .int 0, .int 0, .int 0, .int 0, .int 0, .null, .null, .null, .null])), (q1, .inl (cI, 633, .inl (fun _ => 0))), (q2, .inl (cI, 633, .inl (fun _ => 0))), (q3, .inl (cI, 633, .inl (fun _ => 0))), (q4, .inl (cI, 633, .inl (fun _ => 0))), (q5, .inl (cI, 7, .inl (fun _ => 0))), (q6, .inl (cI, 48, .inl (fun _ => 0)))]) C hS dX8_init_53 bf_X8_25 rfl rfl rfl (Nat.le_of_ble_eq_true rfl) rfl (fun H locs hS => ?_)
  refine lv_aload_n C.1 C.2.1 dX8_init_56 rfl (lv_at hl 0 rfl) ?_
  refine lv_bipush (v := 120) C.1 C.2.1 dX8_init_57 (by decide) ?_
  refine bi_newI C hA hS 120 dX8_init_59 rfl rfl rfl (fun q7 H hS => ?_)
  refine bi_put (ws2 := [(h0, .inr (7, [.ref q1, .ref q2, .ref q3, .ref q4, .ref q5, .int 0, .ref q6, .int 0, .ref q7, .int 0, .int 0, .int 0, .int 0, .int 0, .null, .null, .null, .null])), (q1, .inl (cI, 633, .inl (fun _ => 0))), (q2, .inl (cI, 633, .inl (fun _ => 0))), (q3, .inl (cI, 633, .inl (fun _ => 0))), (q4, .inl (cI, 633, .inl (fun _ => 0))), (q5, .inl (cI, 7, .inl (fun _ => 0))), (q6, .inl (cI, 48, .inl (fun _ => 0))), (q7, .inl (cI, 120, .inl (fun _ => 0)))]) C hS dX8_init_61 bf_X8_28 rfl rfl rfl (Nat.le_of_ble_eq_true rfl) rfl (fun H locs hS => ?_)
  refine lv_aload_n C.1 C.2.1 dX8_init_64 rfl (lv_at hl 0 rfl) ?_
  refine lv_iconst (v := 4) C.1 C.2.1 dX8_init_65 (by decide) ?_
  refine bi_newI C hA hS 4 dX8_init_66 rfl rfl rfl (fun q8 H hS => ?_)
  refine bi_put (ws2 := [(h0, .inr (7, [.ref q1, .ref q2, .ref q3, .ref q4, .ref q5, .int 0, .ref q6, .int 0, .ref q7, .int 0, .int 0, .int 0, .int 0, .int 0, .ref q8, .null, .null, .null])), (q1, .inl (cI, 633, .inl (fun _ => 0))), (q2, .inl (cI, 633, .inl (fun _ => 0))), (q3, .inl (cI, 633, .inl (fun _ => 0))), (q4, .inl (cI, 633, .inl (fun _ => 0))), (q5, .inl (cI, 7, .inl (fun _ => 0))), (q6, .inl (cI, 48, .inl (fun _ => 0))), (q7, .inl (cI, 120, .inl (fun _ => 0))), (q8, .inl (cI, 4, .inl (fun _ => 0)))]) C hS dX8_init_68 bf_X8_31 rfl rfl rfl (Nat.le_of_ble_eq_true rfl) rfl (fun H locs hS => ?_)
  refine lv_aload_n C.1 C.2.1 dX8_init_71 rfl (lv_at hl 0 rfl) ?_
  refine lv_iconst (v := 4) C.1 C.2.1 dX8_init_72 (by decide) ?_
  refine bi_newI C hA hS 4 dX8_init_73 rfl rfl rfl (fun q9 H hS => ?_)
  refine bi_put (ws2 := [(h0, .inr (7, [.ref q1, .ref q2, .ref q3, .ref q4, .ref q5, .int 0, .ref q6, .int 0, .ref q7, .int 0, .int 0, .int 0, .int 0, .int 0, .ref q8, .ref q9, .null, .null])), (q1, .inl (cI, 633, .inl (fun _ => 0))), (q2, .inl (cI, 633, .inl (fun _ => 0))), (q3, .inl (cI, 633, .inl (fun _ => 0))), (q4, .inl (cI, 633, .inl (fun _ => 0))), (q5, .inl (cI, 7, .inl (fun _ => 0))), (q6, .inl (cI, 48, .inl (fun _ => 0))), (q7, .inl (cI, 120, .inl (fun _ => 0))), (q8, .inl (cI, 4, .inl (fun _ => 0))), (q9, .inl (cI, 4, .inl (fun _ => 0)))]) C hS dX8_init_75 bf_X8_34 rfl rfl rfl (Nat.le_of_ble_eq_true rfl) rfl (fun H locs hS => ?_)
  refine lv_aload_n C.1 C.2.1 dX8_init_78 rfl (lv_at hl 0 rfl) ?_
  refine lv_sipush (v := 160) C.1 C.2.1 dX8_init_79 (by decide) ?_
  refine bi_newL C hA hS 160 dX8_init_82 rfl rfl rfl (fun q10 H hS => ?_)
  refine bi_put (ws2 := [(h0, .inr (7, [.ref q1, .ref q2, .ref q3, .ref q4, .ref q5, .int 0, .ref q6, .int 0, .ref q7, .int 0, .int 0, .int 0, .int 0, .int 0, .ref q8, .ref q9, .ref q10, .null])), (q1, .inl (cI, 633, .inl (fun _ => 0))), (q2, .inl (cI, 633, .inl (fun _ => 0))), (q3, .inl (cI, 633, .inl (fun _ => 0))), (q4, .inl (cI, 633, .inl (fun _ => 0))), (q5, .inl (cI, 7, .inl (fun _ => 0))), (q6, .inl (cI, 48, .inl (fun _ => 0))), (q7, .inl (cI, 120, .inl (fun _ => 0))), (q8, .inl (cI, 4, .inl (fun _ => 0))), (q9, .inl (cI, 4, .inl (fun _ => 0))), (q10, .inl (cL, 160, .inr (.inl (fun _ => 0))))]) C hS dX8_init_84 bf_X8_37 rfl rfl rfl (Nat.le_of_ble_eq_true rfl) rfl (fun H locs hS => ?_)
  refine lv_aload_n C.1 C.2.1 dX8_init_87 rfl (lv_at hl 0 rfl) ?_
  refine lv_bipush (v := 40) C.1 C.2.1 dX8_init_88 (by decide) ?_
  refine bi_newL C hA hS 40 dX8_init_90 rfl rfl rfl (fun q11 H hS => ?_)
  refine bi_put (ws2 := [(h0, .inr (7, [.ref q1, .ref q2, .ref q3, .ref q4, .ref q5, .int 0, .ref q6, .int 0, .ref q7, .int 0, .int 0, .int 0, .int 0, .int 0, .ref q8, .ref q9, .ref q10, .ref q11])), (q1, .inl (cI, 633, .inl (fun _ => 0))), (q2, .inl (cI, 633, .inl (fun _ => 0))), (q3, .inl (cI, 633, .inl (fun _ => 0))), (q4, .inl (cI, 633, .inl (fun _ => 0))), (q5, .inl (cI, 7, .inl (fun _ => 0))), (q6, .inl (cI, 48, .inl (fun _ => 0))), (q7, .inl (cI, 120, .inl (fun _ => 0))), (q8, .inl (cI, 4, .inl (fun _ => 0))), (q9, .inl (cI, 4, .inl (fun _ => 0))), (q10, .inl (cL, 160, .inr (.inl (fun _ => 0)))), (q11, .inl (cL, 40, .inr (.inl (fun _ => 0))))]) C hS dX8_init_92 bf_X8_41 rfl rfl rfl (Nat.le_of_ble_eq_true rfl) rfl (fun H locs hS => ?_)
  exact kR 95 H locs (fun k => [q1, q2, q3, q4, q5, q6, q7, q8, q9, q10, q11].getD k 0) dX8_init_95 hS
