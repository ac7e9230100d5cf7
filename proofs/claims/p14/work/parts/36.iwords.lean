/-! ===== constructors: words and decode rows ===== -/
theorem ni_oi : Cond.instanceMethod objectInit ∈ mTb := tm1 (List.mem_of_getElem? (i := 28) (by decide +kernel)) (by decide +kernel)
theorem ni_oc : Cond.code objectInit ⟨#[0xb1]⟩ 1 none ∈ mTb := tm1 (List.mem_of_getElem? (i := 29) (by decide +kernel)) (by decide +kernel)
theorem ni_mRX4_1 : Cond.methodLink RX4 1 objectInit ∈ mTb := tm2 (List.mem_of_getElem? (i := 133) (by decide +kernel)) (by decide +kernel)
theorem me_X4_init : mMe yX4_init cX4_init 1 none 0 := ⟨tm2 (List.mem_of_getElem? (i := 132) (by decide +kernel)) (by decide +kernel), tm1 (List.mem_of_getElem? (i := 11) (by decide +kernel)) (by decide +kernel), by decide +kernel, by decide +kernel, by decide +kernel⟩
theorem mi_X4_init : Cond.instanceMethod yX4_init ∈ mTb := tm2 (List.mem_of_getElem? (i := 131) (by decide +kernel)) (by decide +kernel)
theorem ni_mRX6_1 : Cond.methodLink RX6 1 objectInit ∈ mTb := tm1 (List.mem_of_getElem? (i := 46) (by decide +kernel)) (by decide +kernel)
theorem me_X6_init : mMe yX6_init cX6_init 1 none 0 := ⟨tm1 (List.mem_of_getElem? (i := 45) (by decide +kernel)) (by decide +kernel), tm1 (List.mem_of_getElem? (i := 3) (by decide +kernel)) (by decide +kernel), by decide +kernel, by decide +kernel, by decide +kernel⟩
theorem mi_X6_init : Cond.instanceMethod yX6_init ∈ mTb := tm1 (List.mem_of_getElem? (i := 44) (by decide +kernel)) (by decide +kernel)
theorem ni_mRX7_1 : Cond.methodLink RX7 1 objectInit ∈ mTb := tm1 (List.mem_of_getElem? (i := 103) (by decide +kernel)) (by decide +kernel)
theorem me_X7_init : mMe yX7_init cX7_init 1 none 0 := ⟨tm1 (List.mem_of_getElem? (i := 102) (by decide +kernel)) (by decide +kernel), tm1 (List.mem_of_getElem? (i := 4) (by decide +kernel)) (by decide +kernel), by decide +kernel, by decide +kernel, by decide +kernel⟩
theorem mi_X7_init : Cond.instanceMethod yX7_init ∈ mTb := tm1 (List.mem_of_getElem? (i := 101) (by decide +kernel)) (by decide +kernel)
theorem ni_mRX3_3 : Cond.methodLink RX3 3 objectInit ∈ mTb := tm1 (List.mem_of_getElem? (i := 133) (by decide +kernel)) (by decide +kernel)
theorem ni_a_int : Cond.arrayClass .int ∈ mTb := tm1 (List.mem_of_getElem? (i := 155) (by decide +kernel)) (by decide +kernel)
theorem ni_fRX3_11 : Cond.fieldLink RX3 11 "DriverBook$Code" "parts" "[I" ∈ mTb := tm1 (List.mem_of_getElem? (i := 134) (by decide +kernel)) (by decide +kernel)
theorem ni_fRX3_15 : Cond.fieldLink RX3 15 "DriverBook$Code" "size" "I" ∈ mTb := tm1 (List.mem_of_getElem? (i := 135) (by decide +kernel)) (by decide +kernel)
theorem ni_fRX3_19 : Cond.fieldLink RX3 19 "DriverBook$Code" "groupSet" "I" ∈ mTb := tm1 (List.mem_of_getElem? (i := 138) (by decide +kernel)) (by decide +kernel)
theorem ni_fRX3_22 : Cond.fieldLink RX3 22 "DriverBook$Code" "groupRegister" "I" ∈ mTb := tm1 (List.mem_of_getElem? (i := 139) (by decide +kernel)) (by decide +kernel)
theorem ni_fRX3_25 : Cond.fieldLink RX3 25 "DriverBook$Code" "groupMask" "I" ∈ mTb := tm1 (List.mem_of_getElem? (i := 140) (by decide +kernel)) (by decide +kernel)
theorem ni_fRX3_28 : Cond.fieldLink RX3 28 "DriverBook$Code" "groupBits" "I" ∈ mTb := tm1 (List.mem_of_getElem? (i := 141) (by decide +kernel)) (by decide +kernel)
theorem me_X3_init : mMe yX3_init cX3_init 1 none 0 := ⟨tm1 (List.mem_of_getElem? (i := 132) (by decide +kernel)) (by decide +kernel), tm1 (List.mem_of_getElem? (i := 6) (by decide +kernel)) (by decide +kernel), by decide +kernel, by decide +kernel, by decide +kernel⟩
theorem mi_X3_init : Cond.instanceMethod yX3_init ∈ mTb := tm1 (List.mem_of_getElem? (i := 131) (by decide +kernel)) (by decide +kernel)
theorem ni_mRX0_3 : Cond.methodLink RX0 3 objectInit ∈ mTb := tm1 (List.mem_of_getElem? (i := 127) (by decide +kernel)) (by decide +kernel)
theorem ni_fRX0_9 : Cond.fieldLink RX0 9 "DriverBook$Act" "kinds" "[I" ∈ mTb := tm1 (List.mem_of_getElem? (i := 156) (by decide +kernel)) (by decide +kernel)
theorem ni_fRX0_15 : Cond.fieldLink RX0 15 "DriverBook$Act" "stepFields" "[I" ∈ mTb := tm1 (List.mem_of_getElem? (i := 158) (by decide +kernel)) (by decide +kernel)
theorem ni_fRX0_18 : Cond.fieldLink RX0 18 "DriverBook$Act" "numbers" "[I" ∈ mTb := tm1 (List.mem_of_getElem? (i := 160) (by decide +kernel)) (by decide +kernel)
theorem ni_fRX0_21 : Cond.fieldLink RX0 21 "DriverBook$Act" "limits" "[I" ∈ mTb := tm1 (List.mem_of_getElem? (i := 162) (by decide +kernel)) (by decide +kernel)
theorem ni_cRX0_24 : Cond.classLink RX0 24 "DriverBook$Code" ∈ mTb := tm1 (List.mem_of_getElem? (i := 128) (by decide +kernel)) (by decide +kernel)
theorem ni_i3 : Cond.instantiable "DriverBook$Code" (mNs 3) ∈ mTb := tm1 (List.mem_of_getElem? (i := 129) (by decide +kernel)) (by decide +kernel)
theorem ni_n3 : Cond.initialized "DriverBook$Code" ∈ mTb := tm1 (List.mem_of_getElem? (i := 6) (by decide +kernel)) (by decide +kernel)
theorem nl_RX0_26 : gLk RX0 26 yX3_init := Or.inr ⟨"DriverBook", by decide +kernel⟩
theorem ni_fRX0_27 : Cond.fieldLink RX0 27 "DriverBook$Act" "code" "LDriverBook$Code;" ∈ mTb := tm1 (List.mem_of_getElem? (i := 164) (by decide +kernel)) (by decide +kernel)
theorem ni_fRX0_31 : Cond.fieldLink RX0 31 "DriverBook$Act" "stepCount" "I" ∈ mTb := tm1 (List.mem_of_getElem? (i := 168) (by decide +kernel)) (by decide +kernel)
theorem me_X0_init : mMe yX0_init cX0_init 1 none 0 := ⟨tm1 (List.mem_of_getElem? (i := 126) (by decide +kernel)) (by decide +kernel), tm1 (List.mem_of_getElem? (i := 5) (by decide +kernel)) (by decide +kernel), by decide +kernel, by decide +kernel, by decide +kernel⟩
theorem mi_X0_init : Cond.instanceMethod yX0_init ∈ mTb := tm1 (List.mem_of_getElem? (i := 125) (by decide +kernel)) (by decide +kernel)
theorem ni_mRX8_3 : Cond.methodLink RX8 3 objectInit ∈ mTb := tm2 (List.mem_of_getElem? (i := 1) (by decide +kernel)) (by decide +kernel)
theorem ni_fRX8_9 : Cond.fieldLink RX8 9 "DriverBook$State" "value" "[I" ∈ mTb := tm2 (List.mem_of_getElem? (i := 6) (by decide +kernel)) (by decide +kernel)
theorem ni_fRX8_15 : Cond.fieldLink RX8 15 "DriverBook$State" "pending" "[I" ∈ mTb := tm2 (List.mem_of_getElem? (i := 11) (by decide +kernel)) (by decide +kernel)
theorem ni_fRX8_18 : Cond.fieldLink RX8 18 "DriverBook$State" "timer" "[I" ∈ mTb := tm2 (List.mem_of_getElem? (i := 15) (by decide +kernel)) (by decide +kernel)
theorem ni_fRX8_21 : Cond.fieldLink RX8 21 "DriverBook$State" "soft" "[I" ∈ mTb := tm2 (List.mem_of_getElem? (i := 18) (by decide +kernel)) (by decide +kernel)
theorem ni_a_long : Cond.arrayClass .long ∈ mTb := tm2 (List.mem_of_getElem? (i := 90) (by decide +kernel)) (by decide +kernel)
theorem ni_fRX8_24 : Cond.fieldLink RX8 24 "DriverBook$State" "lastHit" "[J" ∈ mTb := tm2 (List.mem_of_getElem? (i := 22) (by decide +kernel)) (by decide +kernel)
theorem ni_fRX8_28 : Cond.fieldLink RX8 28 "DriverBook$State" "shadow" "[I" ∈ mTb := tm2 (List.mem_of_getElem? (i := 24) (by decide +kernel)) (by decide +kernel)
theorem ni_fRX8_31 : Cond.fieldLink RX8 31 "DriverBook$State" "eventField" "[I" ∈ mTb := tm2 (List.mem_of_getElem? (i := 28) (by decide +kernel)) (by decide +kernel)
theorem ni_fRX8_34 : Cond.fieldLink RX8 34 "DriverBook$State" "eventValue" "[I" ∈ mTb := tm2 (List.mem_of_getElem? (i := 30) (by decide +kernel)) (by decide +kernel)
theorem ni_fRX8_37 : Cond.fieldLink RX8 37 "DriverBook$State" "eventTick" "[J" ∈ mTb := tm2 (List.mem_of_getElem? (i := 32) (by decide +kernel)) (by decide +kernel)
theorem ni_fRX8_40 : Cond.fieldLink RX8 40 "DriverBook$State" "eventCount" "I" ∈ mTb := tm2 (List.mem_of_getElem? (i := 34) (by decide +kernel)) (by decide +kernel)
theorem ni_fRX8_44 : Cond.fieldLink RX8 44 "DriverBook$State" "now" "J" ∈ mTb := tm2 (List.mem_of_getElem? (i := 38) (by decide +kernel)) (by decide +kernel)
theorem ni_fRX8_48 : Cond.fieldLink RX8 48 "DriverBook$State" "result" "I" ∈ mTb := tm2 (List.mem_of_getElem? (i := 42) (by decide +kernel)) (by decide +kernel)
theorem ni_fRX8_51 : Cond.fieldLink RX8 51 "DriverBook$State" "served" "I" ∈ mTb := tm2 (List.mem_of_getElem? (i := 45) (by decide +kernel)) (by decide +kernel)
theorem ni_fRX8_54 : Cond.fieldLink RX8 54 "DriverBook$State" "breakCount" "J" ∈ mTb := tm2 (List.mem_of_getElem? (i := 49) (by decide +kernel)) (by decide +kernel)
theorem ni_fRX8_57 : Cond.fieldLink RX8 57 "DriverBook$State" "firstLaw" "I" ∈ mTb := tm2 (List.mem_of_getElem? (i := 53) (by decide +kernel)) (by decide +kernel)
theorem ni_kRX8_60 : Cond.constantLong RX8 60 (-1) ∈ mTb := tm2 (List.mem_of_getElem? (i := 2) (by decide +kernel)) (by decide +kernel)
theorem ni_fRX8_62 : Cond.fieldLink RX8 62 "DriverBook$State" "firstNow" "J" ∈ mTb := tm2 (List.mem_of_getElem? (i := 55) (by decide +kernel)) (by decide +kernel)
theorem ni_mRX8_65 : Cond.methodLink RX8 65 yJ7_fill_d0a16 ∈ mTb := tm2 (List.mem_of_getElem? (i := 3) (by decide +kernel)) (by decide +kernel)
theorem ni_sf : Cond.static yJ7_fill_d0a16 ∈ mTb := tm2 (List.mem_of_getElem? (i := 4) (by decide +kernel)) (by decide +kernel)
theorem me_X8_init : mMe yX8_init cX8_init 1 none 0 := ⟨tm2 (List.mem_of_getElem? (i := 0) (by decide +kernel)) (by decide +kernel), tm1 (List.mem_of_getElem? (i := 7) (by decide +kernel)) (by decide +kernel), by decide +kernel, by decide +kernel, by decide +kernel⟩
theorem mi_X8_init : Cond.instanceMethod yX8_init ∈ mTb := tm1 (List.mem_of_getElem? (i := 239) (by decide +kernel)) (by decide +kernel)
theorem ni_mRX2_3 : Cond.methodLink RX2 3 objectInit ∈ mTb := tm2 (List.mem_of_getElem? (i := 96) (by decide +kernel)) (by decide +kernel)
theorem ni_cRX2_9 : Cond.classLink RX2 9 ("[" ++ (FieldType.array .int).toString) ∈ mTb := tm2 (List.mem_of_getElem? (i := 97) (by decide +kernel)) (by decide +kernel)
theorem ni_fRX2_11 : Cond.fieldLink RX2 11 "DriverBook$Chip" "fieldsIn" "[[I" ∈ mTb := tm2 (List.mem_of_getElem? (i := 101) (by decide +kernel)) (by decide +kernel)
theorem ni_fRX2_16 : Cond.fieldLink RX2 16 "DriverBook$Chip" "fieldsInCount" "[I" ∈ mTb := tm2 (List.mem_of_getElem? (i := 102) (by decide +kernel)) (by decide +kernel)
theorem ni_fRX2_20 : Cond.fieldLink RX2 20 "DriverBook$Chip" "keptBits" "[I" ∈ mTb := tm2 (List.mem_of_getElem? (i := 103) (by decide +kernel)) (by decide +kernel)
theorem ni_fRX2_23 : Cond.fieldLink RX2 23 "DriverBook$Chip" "pulses" "[I" ∈ mTb := tm2 (List.mem_of_getElem? (i := 105) (by decide +kernel)) (by decide +kernel)
theorem ni_fRX2_26 : Cond.fieldLink RX2 26 "DriverBook$Chip" "pulseCount" "I" ∈ mTb := tm2 (List.mem_of_getElem? (i := 106) (by decide +kernel)) (by decide +kernel)
theorem ni_fRX2_30 : Cond.fieldLink RX2 30 "DriverBook$Chip" "book" "LDriverBook$Book;" ∈ mTb := tm2 (List.mem_of_getElem? (i := 99) (by decide +kernel)) (by decide +kernel)
theorem ni_fRX2_34 : Cond.fieldLink RX2 34 "DriverBook$Chip" "state" "LDriverBook$State;" ∈ mTb := tm2 (List.mem_of_getElem? (i := 100) (by decide +kernel)) (by decide +kernel)
theorem me_X2_init : mMe yX2_init cX2_init 3 none 2 := ⟨tm2 (List.mem_of_getElem? (i := 95) (by decide +kernel)) (by decide +kernel), tm1 (List.mem_of_getElem? (i := 9) (by decide +kernel)) (by decide +kernel), by decide +kernel, by decide +kernel, by decide +kernel⟩
theorem mi_X2_init : Cond.instanceMethod yX2_init ∈ mTb := tm2 (List.mem_of_getElem? (i := 94) (by decide +kernel)) (by decide +kernel)
theorem ni_mRX5_5 : Cond.methodLink RX5 5 objectInit ∈ mTb := tm2 (List.mem_of_getElem? (i := 127) (by decide +kernel)) (by decide +kernel)
theorem ni_cRX5_11 : Cond.classLink RX5 11 "DriverBook$Course" ∈ mTb := tm2 (List.mem_of_getElem? (i := 128) (by decide +kernel)) (by decide +kernel)
theorem ni_i4 : Cond.instantiable "DriverBook$Course" (mNs 4) ∈ mTb := tm2 (List.mem_of_getElem? (i := 129) (by decide +kernel)) (by decide +kernel)
theorem ni_n4 : Cond.initialized "DriverBook$Course" ∈ mTb := tm1 (List.mem_of_getElem? (i := 11) (by decide +kernel)) (by decide +kernel)
theorem nl_RX5_13 : gLk RX5 13 yX4_init := Or.inr ⟨"DriverBook", by decide +kernel⟩
theorem ni_fRX5_14 : Cond.fieldLink RX5 14 "DriverBook$Driver" "actCourse" "LDriverBook$Course;" ∈ mTb := tm2 (List.mem_of_getElem? (i := 154) (by decide +kernel)) (by decide +kernel)
theorem ni_fRX5_20 : Cond.fieldLink RX5 20 "DriverBook$Driver" "handlerCourse" "LDriverBook$Course;" ∈ mTb := tm2 (List.mem_of_getElem? (i := 155) (by decide +kernel)) (by decide +kernel)
theorem ni_fRX5_23 : Cond.fieldLink RX5 23 "DriverBook$Driver" "locked" "Z" ∈ mTb := tm2 (List.mem_of_getElem? (i := 156) (by decide +kernel)) (by decide +kernel)
theorem ni_fRX5_27 : Cond.fieldLink RX5 27 "DriverBook$Driver" "book" "LDriverBook$Book;" ∈ mTb := tm2 (List.mem_of_getElem? (i := 151) (by decide +kernel)) (by decide +kernel)
theorem ni_fRX5_31 : Cond.fieldLink RX5 31 "DriverBook$Driver" "state" "LDriverBook$State;" ∈ mTb := tm2 (List.mem_of_getElem? (i := 152) (by decide +kernel)) (by decide +kernel)
theorem ni_fRX5_35 : Cond.fieldLink RX5 35 "DriverBook$Driver" "chip" "LDriverBook$Chip;" ∈ mTb := tm2 (List.mem_of_getElem? (i := 153) (by decide +kernel)) (by decide +kernel)
theorem me_X5_init : mMe yX5_init cX5_init 4 none 3 := ⟨tm2 (List.mem_of_getElem? (i := 126) (by decide +kernel)) (by decide +kernel), tm1 (List.mem_of_getElem? (i := 10) (by decide +kernel)) (by decide +kernel), by decide +kernel, by decide +kernel, by decide +kernel⟩
theorem mi_X5_init : Cond.instanceMethod yX5_init ∈ mTb := tm2 (List.mem_of_getElem? (i := 125) (by decide +kernel)) (by decide +kernel)
theorem ni_mRX9_3 : Cond.methodLink RX9 3 objectInit ∈ mTb := tm2 (List.mem_of_getElem? (i := 211) (by decide +kernel)) (by decide +kernel)
theorem ni_fRX9_11 : Cond.fieldLink RX9 11 "DriverBook$Tape" "sort" "I" ∈ mTb := tm2 (List.mem_of_getElem? (i := 214) (by decide +kernel)) (by decide +kernel)
theorem ni_fRX9_15 : Cond.fieldLink RX9 15 "DriverBook$Tape" "length" "I" ∈ mTb := tm2 (List.mem_of_getElem? (i := 216) (by decide +kernel)) (by decide +kernel)
theorem ni_fRX9_18 : Cond.fieldLink RX9 18 "DriverBook$Tape" "row" "[J" ∈ mTb := tm2 (List.mem_of_getElem? (i := 217) (by decide +kernel)) (by decide +kernel)
theorem ni_cRX9_22 : Cond.classLink RX9 22 "DriverBook$State" ∈ mTb := tm2 (List.mem_of_getElem? (i := 212) (by decide +kernel)) (by decide +kernel)
theorem ni_i8 : Cond.instantiable "DriverBook$State" (mNs 8) ∈ mTb := tm1 (List.mem_of_getElem? (i := 237) (by decide +kernel)) (by decide +kernel)
theorem ni_n8 : Cond.initialized "DriverBook$State" ∈ mTb := tm1 (List.mem_of_getElem? (i := 7) (by decide +kernel)) (by decide +kernel)
theorem nl_RX9_24 : gLk RX9 24 yX8_init := Or.inl (tm2 (List.mem_of_getElem? (i := 213) (by decide +kernel)) (by decide +kernel))
theorem ni_fRX9_25 : Cond.fieldLink RX9 25 "DriverBook$Tape" "image" "LDriverBook$State;" ∈ mTb := tm2 (List.mem_of_getElem? (i := 219) (by decide +kernel)) (by decide +kernel)
theorem ni_fRX9_29 : Cond.fieldLink RX9 29 "DriverBook$Tape" "age" "I" ∈ mTb := tm2 (List.mem_of_getElem? (i := 221) (by decide +kernel)) (by decide +kernel)
theorem me_X9_init : mMe yX9_init cX9_init 1 none 0 := ⟨tm2 (List.mem_of_getElem? (i := 210) (by decide +kernel)) (by decide +kernel), tm1 (List.mem_of_getElem? (i := 13) (by decide +kernel)) (by decide +kernel), by decide +kernel, by decide +kernel, by decide +kernel⟩
theorem mi_X9_init : Cond.instanceMethod yX9_init ∈ mTb := tm2 (List.mem_of_getElem? (i := 209) (by decide +kernel)) (by decide +kernel)
theorem ni_mRX10_3 : Cond.methodLink RX10 3 objectInit ∈ mTb := tm2 (List.mem_of_getElem? (i := 175) (by decide +kernel)) (by decide +kernel)
theorem ni_cRX10_9 : Cond.classLink RX10 9 "DriverBook$State" ∈ mTb := tm2 (List.mem_of_getElem? (i := 176) (by decide +kernel)) (by decide +kernel)
theorem nl_RX10_11 : gLk RX10 11 yX8_init := Or.inl (tm2 (List.mem_of_getElem? (i := 177) (by decide +kernel)) (by decide +kernel))
theorem ni_fRX10_12 : Cond.fieldLink RX10 12 "DriverBook$Walker" "start" "LDriverBook$State;" ∈ mTb := tm2 (List.mem_of_getElem? (i := 181) (by decide +kernel)) (by decide +kernel)
theorem ni_fRX10_18 : Cond.fieldLink RX10 18 "DriverBook$Walker" "byAct" "[I" ∈ mTb := tm2 (List.mem_of_getElem? (i := 182) (by decide +kernel)) (by decide +kernel)
theorem ni_fRX10_22 : Cond.fieldLink RX10 22 "DriverBook$Walker" "byHandler" "[I" ∈ mTb := tm2 (List.mem_of_getElem? (i := 183) (by decide +kernel)) (by decide +kernel)
theorem ni_fRX10_25 : Cond.fieldLink RX10 25 "DriverBook$Walker" "rule" "I" ∈ mTb := tm2 (List.mem_of_getElem? (i := 184) (by decide +kernel)) (by decide +kernel)
theorem ni_fRX10_29 : Cond.fieldLink RX10 29 "DriverBook$Walker" "ruleField" "I" ∈ mTb := tm2 (List.mem_of_getElem? (i := 186) (by decide +kernel)) (by decide +kernel)
theorem ni_fRX10_32 : Cond.fieldLink RX10 32 "DriverBook$Walker" "book" "LDriverBook$Book;" ∈ mTb := tm2 (List.mem_of_getElem? (i := 178) (by decide +kernel)) (by decide +kernel)
theorem ni_fRX10_36 : Cond.fieldLink RX10 36 "DriverBook$Walker" "state" "LDriverBook$State;" ∈ mTb := tm2 (List.mem_of_getElem? (i := 179) (by decide +kernel)) (by decide +kernel)
theorem ni_fRX10_39 : Cond.fieldLink RX10 39 "DriverBook$Walker" "driver" "LDriverBook$Driver;" ∈ mTb := tm2 (List.mem_of_getElem? (i := 180) (by decide +kernel)) (by decide +kernel)
theorem me_X10_init : mMe yX10_init cX10_init 4 none 3 := ⟨tm2 (List.mem_of_getElem? (i := 174) (by decide +kernel)) (by decide +kernel), tm1 (List.mem_of_getElem? (i := 12) (by decide +kernel)) (by decide +kernel), by decide +kernel, by decide +kernel, by decide +kernel⟩
theorem mi_X10_init : Cond.instanceMethod yX10_init ∈ mTb := tm2 (List.mem_of_getElem? (i := 173) (by decide +kernel)) (by decide +kernel)
theorem ni_mRX1_3 : Cond.methodLink RX1 3 objectInit ∈ mTb := tm1 (List.mem_of_getElem? (i := 35) (by decide +kernel)) (by decide +kernel)
theorem ni_cRX1_9 : Cond.classLink RX1 9 "DriverBook$Field" ∈ mTb := tm1 (List.mem_of_getElem? (i := 36) (by decide +kernel)) (by decide +kernel)
theorem ni_fRX1_11 : Cond.fieldLink RX1 11 "DriverBook$Book" "fields" "[LDriverBook$Field;" ∈ mTb := tm1 (List.mem_of_getElem? (i := 185) (by decide +kernel)) (by decide +kernel)
theorem ni_cRX1_17 : Cond.classLink RX1 17 "DriverBook$Law" ∈ mTb := tm1 (List.mem_of_getElem? (i := 38) (by decide +kernel)) (by decide +kernel)
theorem ni_fRX1_19 : Cond.fieldLink RX1 19 "DriverBook$Book" "laws" "[LDriverBook$Law;" ∈ mTb := tm1 (List.mem_of_getElem? (i := 191) (by decide +kernel)) (by decide +kernel)
theorem ni_cRX1_23 : Cond.classLink RX1 23 "DriverBook$Act" ∈ mTb := tm1 (List.mem_of_getElem? (i := 40) (by decide +kernel)) (by decide +kernel)
theorem ni_fRX1_25 : Cond.fieldLink RX1 25 "DriverBook$Book" "acts" "[LDriverBook$Act;" ∈ mTb := tm1 (List.mem_of_getElem? (i := 193) (by decide +kernel)) (by decide +kernel)
theorem ni_fRX1_29 : Cond.fieldLink RX1 29 "DriverBook$Book" "registerCount" "I" ∈ mTb := tm1 (List.mem_of_getElem? (i := 197) (by decide +kernel)) (by decide +kernel)
theorem ni_fRX1_33 : Cond.fieldLink RX1 33 "DriverBook$Book" "fieldCount" "I" ∈ mTb := tm1 (List.mem_of_getElem? (i := 199) (by decide +kernel)) (by decide +kernel)
theorem ni_fRX1_36 : Cond.fieldLink RX1 36 "DriverBook$Book" "lawCount" "I" ∈ mTb := tm1 (List.mem_of_getElem? (i := 204) (by decide +kernel)) (by decide +kernel)
theorem ni_fRX1_39 : Cond.fieldLink RX1 39 "DriverBook$Book" "actCount" "I" ∈ mTb := tm1 (List.mem_of_getElem? (i := 207) (by decide +kernel)) (by decide +kernel)
theorem ni_fRX1_42 : Cond.fieldLink RX1 42 "DriverBook$Book" "locks" "I" ∈ mTb := tm1 (List.mem_of_getElem? (i := 209) (by decide +kernel)) (by decide +kernel)
theorem ni_fRX1_45 : Cond.fieldLink RX1 45 "DriverBook$Book" "age" "I" ∈ mTb := tm1 (List.mem_of_getElem? (i := 212) (by decide +kernel)) (by decide +kernel)
theorem ni_fRX1_48 : Cond.fieldLink RX1 48 "DriverBook$Book" "codeIsMade" "Z" ∈ mTb := tm1 (List.mem_of_getElem? (i := 214) (by decide +kernel)) (by decide +kernel)
theorem ni_i6 : Cond.instantiable "DriverBook$Field" (mNs 6) ∈ mTb := tm1 (List.mem_of_getElem? (i := 42) (by decide +kernel)) (by decide +kernel)
theorem ni_n6 : Cond.initialized "DriverBook$Field" ∈ mTb := tm1 (List.mem_of_getElem? (i := 3) (by decide +kernel)) (by decide +kernel)
theorem nl_RX1_52 : gLk RX1 52 yX6_init := Or.inr ⟨"DriverBook", by decide +kernel⟩
theorem ni_i7 : Cond.instantiable "DriverBook$Law" (mNs 7) ∈ mTb := tm1 (List.mem_of_getElem? (i := 99) (by decide +kernel)) (by decide +kernel)
theorem ni_n7 : Cond.initialized "DriverBook$Law" ∈ mTb := tm1 (List.mem_of_getElem? (i := 4) (by decide +kernel)) (by decide +kernel)
theorem nl_RX1_53 : gLk RX1 53 yX7_init := Or.inr ⟨"DriverBook", by decide +kernel⟩
theorem ni_i0 : Cond.instantiable "DriverBook$Act" (mNs 0) ∈ mTb := tm1 (List.mem_of_getElem? (i := 123) (by decide +kernel)) (by decide +kernel)
theorem ni_n0 : Cond.initialized "DriverBook$Act" ∈ mTb := tm1 (List.mem_of_getElem? (i := 5) (by decide +kernel)) (by decide +kernel)
theorem nl_RX1_54 : gLk RX1 54 yX0_init := Or.inr ⟨"DriverBook", by decide +kernel⟩
theorem me_X1_init : mMe yX1_init cX1_init 2 none 0 := ⟨tm1 (List.mem_of_getElem? (i := 34) (by decide +kernel)) (by decide +kernel), tm1 (List.mem_of_getElem? (i := 2) (by decide +kernel)) (by decide +kernel), by decide +kernel, by decide +kernel, by decide +kernel⟩
theorem mi_X1_init : Cond.instanceMethod yX1_init ∈ mTb := tm1 (List.mem_of_getElem? (i := 33) (by decide +kernel)) (by decide +kernel)
theorem ni_mRX11_1 : Cond.methodLink RX11 1 objectInit ∈ mTb := tm1 (List.mem_of_getElem? (i := 27) (by decide +kernel)) (by decide +kernel)
theorem ni_cRX11_7 : Cond.classLink RX11 7 "DriverBook$Book" ∈ mTb := tm1 (List.mem_of_getElem? (i := 30) (by decide +kernel)) (by decide +kernel)
theorem ni_i1 : Cond.instantiable "DriverBook$Book" (mNs 1) ∈ mTb := tm1 (List.mem_of_getElem? (i := 31) (by decide +kernel)) (by decide +kernel)
theorem ni_n1 : Cond.initialized "DriverBook$Book" ∈ mTb := tm1 (List.mem_of_getElem? (i := 2) (by decide +kernel)) (by decide +kernel)
theorem nl_RX11_9 : gLk RX11 9 yX1_init := Or.inl (tm1 (List.mem_of_getElem? (i := 32) (by decide +kernel)) (by decide +kernel))
theorem ni_fRX11_10 : Cond.fieldLink RX11 10 "DriverBook" "book" "LDriverBook$Book;" ∈ mTb := tm2 (List.mem_of_getElem? (i := 234) (by decide +kernel)) (by decide +kernel)
theorem ni_cRX11_16 : Cond.classLink RX11 16 "DriverBook$State" ∈ mTb := tm1 (List.mem_of_getElem? (i := 236) (by decide +kernel)) (by decide +kernel)
theorem nl_RX11_18 : gLk RX11 18 yX8_init := Or.inl (tm1 (List.mem_of_getElem? (i := 238) (by decide +kernel)) (by decide +kernel))
theorem ni_fRX11_19 : Cond.fieldLink RX11 19 "DriverBook" "state" "LDriverBook$State;" ∈ mTb := tm2 (List.mem_of_getElem? (i := 235) (by decide +kernel)) (by decide +kernel)
theorem ni_cRX11_23 : Cond.classLink RX11 23 "DriverBook$Chip" ∈ mTb := tm2 (List.mem_of_getElem? (i := 91) (by decide +kernel)) (by decide +kernel)
theorem ni_i2 : Cond.instantiable "DriverBook$Chip" (mNs 2) ∈ mTb := tm2 (List.mem_of_getElem? (i := 92) (by decide +kernel)) (by decide +kernel)
theorem ni_n2 : Cond.initialized "DriverBook$Chip" ∈ mTb := tm1 (List.mem_of_getElem? (i := 9) (by decide +kernel)) (by decide +kernel)
theorem nl_RX11_25 : gLk RX11 25 yX2_init := Or.inl (tm2 (List.mem_of_getElem? (i := 93) (by decide +kernel)) (by decide +kernel))
theorem ni_fRX11_28 : Cond.fieldLink RX11 28 "DriverBook" "chip" "LDriverBook$Chip;" ∈ mTb := tm2 (List.mem_of_getElem? (i := 236) (by decide +kernel)) (by decide +kernel)
theorem ni_cRX11_32 : Cond.classLink RX11 32 "DriverBook$Driver" ∈ mTb := tm2 (List.mem_of_getElem? (i := 122) (by decide +kernel)) (by decide +kernel)
theorem ni_i5 : Cond.instantiable "DriverBook$Driver" (mNs 5) ∈ mTb := tm2 (List.mem_of_getElem? (i := 123) (by decide +kernel)) (by decide +kernel)
theorem ni_n5 : Cond.initialized "DriverBook$Driver" ∈ mTb := tm1 (List.mem_of_getElem? (i := 10) (by decide +kernel)) (by decide +kernel)
theorem nl_RX11_34 : gLk RX11 34 yX5_init := Or.inl (tm2 (List.mem_of_getElem? (i := 124) (by decide +kernel)) (by decide +kernel))
theorem ni_fRX11_37 : Cond.fieldLink RX11 37 "DriverBook" "driver" "LDriverBook$Driver;" ∈ mTb := tm2 (List.mem_of_getElem? (i := 237) (by decide +kernel)) (by decide +kernel)
theorem ni_cRX11_41 : Cond.classLink RX11 41 "DriverBook$Walker" ∈ mTb := tm2 (List.mem_of_getElem? (i := 170) (by decide +kernel)) (by decide +kernel)
theorem ni_i10 : Cond.instantiable "DriverBook$Walker" (mNs 10) ∈ mTb := tm2 (List.mem_of_getElem? (i := 171) (by decide +kernel)) (by decide +kernel)
theorem ni_n10 : Cond.initialized "DriverBook$Walker" ∈ mTb := tm1 (List.mem_of_getElem? (i := 12) (by decide +kernel)) (by decide +kernel)
theorem nl_RX11_43 : gLk RX11 43 yX10_init := Or.inl (tm2 (List.mem_of_getElem? (i := 172) (by decide +kernel)) (by decide +kernel))
theorem ni_fRX11_46 : Cond.fieldLink RX11 46 "DriverBook" "walker" "LDriverBook$Walker;" ∈ mTb := tm2 (List.mem_of_getElem? (i := 238) (by decide +kernel)) (by decide +kernel)
theorem ni_cRX11_50 : Cond.classLink RX11 50 "DriverBook$Tape" ∈ mTb := tm2 (List.mem_of_getElem? (i := 205) (by decide +kernel)) (by decide +kernel)
theorem ni_fRX11_52 : Cond.fieldLink RX11 52 "DriverBook" "tapes" "[LDriverBook$Tape;" ∈ mTb := tm2 (List.mem_of_getElem? (i := 239) (by decide +kernel)) (by decide +kernel)
theorem ni_i9 : Cond.instantiable "DriverBook$Tape" (mNs 9) ∈ mTb := tm2 (List.mem_of_getElem? (i := 207) (by decide +kernel)) (by decide +kernel)
theorem ni_n9 : Cond.initialized "DriverBook$Tape" ∈ mTb := tm1 (List.mem_of_getElem? (i := 13) (by decide +kernel)) (by decide +kernel)
theorem nl_RX11_56 : gLk RX11 56 yX9_init := Or.inr ⟨"DriverBook", by decide +kernel⟩
theorem ni_fRX11_57 : Cond.fieldLink RX11 57 "DriverBook" "hostRefusals" "I" ∈ mTb := tm3 (List.mem_of_getElem? (i := 0) (by decide +kernel)) (by decide +kernel)
theorem me_X11_init : mMe yX11_init cX11_init 2 none 0 := ⟨tm1 (List.mem_of_getElem? (i := 26) (by decide +kernel)) (by decide +kernel), tm1 (List.mem_of_getElem? (i := 1) (by decide +kernel)) (by decide +kernel), by decide +kernel, by decide +kernel, by decide +kernel⟩
theorem mi_X11_init : Cond.instanceMethod yX11_init ∈ mTb := tm1 (List.mem_of_getElem? (i := 25) (by decide +kernel)) (by decide +kernel)
theorem ni_mRX12_1 : Cond.methodLink RX12 1 objectInit ∈ mTb := tm5 (List.mem_of_getElem? (i := 127) (by decide +kernel)) (by decide +kernel)
theorem ni_fRX12_7 : Cond.fieldLink RX12 7 "DriverBookModel" "registers" "I" ∈ mTb := tm5 (List.mem_of_getElem? (i := 129) (by decide +kernel)) (by decide +kernel)
theorem ni_fRX12_13 : Cond.fieldLink RX12 13 "DriverBookModel" "register" "[I" ∈ mTb := tm5 (List.mem_of_getElem? (i := 131) (by decide +kernel)) (by decide +kernel)
theorem ni_fRX12_17 : Cond.fieldLink RX12 17 "DriverBookModel" "low" "[I" ∈ mTb := tm5 (List.mem_of_getElem? (i := 132) (by decide +kernel)) (by decide +kernel)
theorem ni_fRX12_20 : Cond.fieldLink RX12 20 "DriverBookModel" "width" "[I" ∈ mTb := tm5 (List.mem_of_getElem? (i := 133) (by decide +kernel)) (by decide +kernel)
theorem ni_fRX12_23 : Cond.fieldLink RX12 23 "DriverBookModel" "kind" "[I" ∈ mTb := tm5 (List.mem_of_getElem? (i := 134) (by decide +kernel)) (by decide +kernel)
theorem ni_fRX12_26 : Cond.fieldLink RX12 26 "DriverBookModel" "reset" "[I" ∈ mTb := tm5 (List.mem_of_getElem? (i := 135) (by decide +kernel)) (by decide +kernel)
theorem ni_fRX12_29 : Cond.fieldLink RX12 29 "DriverBookModel" "period" "[I" ∈ mTb := tm5 (List.mem_of_getElem? (i := 136) (by decide +kernel)) (by decide +kernel)
theorem ni_fRX12_32 : Cond.fieldLink RX12 32 "DriverBookModel" "done" "[I" ∈ mTb := tm5 (List.mem_of_getElem? (i := 137) (by decide +kernel)) (by decide +kernel)
theorem ni_fRX12_35 : Cond.fieldLink RX12 35 "DriverBookModel" "handler" "[I" ∈ mTb := tm5 (List.mem_of_getElem? (i := 138) (by decide +kernel)) (by decide +kernel)
theorem ni_fRX12_38 : Cond.fieldLink RX12 38 "DriverBookModel" "lawKind" "[I" ∈ mTb := tm5 (List.mem_of_getElem? (i := 140) (by decide +kernel)) (by decide +kernel)
theorem ni_fRX12_41 : Cond.fieldLink RX12 41 "DriverBookModel" "lawF" "[I" ∈ mTb := tm5 (List.mem_of_getElem? (i := 141) (by decide +kernel)) (by decide +kernel)
theorem ni_fRX12_44 : Cond.fieldLink RX12 44 "DriverBookModel" "lawG" "[I" ∈ mTb := tm5 (List.mem_of_getElem? (i := 142) (by decide +kernel)) (by decide +kernel)
theorem ni_fRX12_47 : Cond.fieldLink RX12 47 "DriverBookModel" "lawV" "[I" ∈ mTb := tm5 (List.mem_of_getElem? (i := 143) (by decide +kernel)) (by decide +kernel)
theorem ni_fRX12_50 : Cond.fieldLink RX12 50 "DriverBookModel" "steps" "[I" ∈ mTb := tm5 (List.mem_of_getElem? (i := 145) (by decide +kernel)) (by decide +kernel)
theorem ni_fRX12_53 : Cond.fieldLink RX12 53 "DriverBookModel" "stepKind" "[I" ∈ mTb := tm5 (List.mem_of_getElem? (i := 146) (by decide +kernel)) (by decide +kernel)
theorem ni_fRX12_56 : Cond.fieldLink RX12 56 "DriverBookModel" "stepField" "[I" ∈ mTb := tm5 (List.mem_of_getElem? (i := 147) (by decide +kernel)) (by decide +kernel)
theorem ni_fRX12_59 : Cond.fieldLink RX12 59 "DriverBookModel" "stepV" "[I" ∈ mTb := tm5 (List.mem_of_getElem? (i := 148) (by decide +kernel)) (by decide +kernel)
theorem ni_fRX12_62 : Cond.fieldLink RX12 62 "DriverBookModel" "stepLimit" "[I" ∈ mTb := tm5 (List.mem_of_getElem? (i := 149) (by decide +kernel)) (by decide +kernel)
theorem ni_fRX12_65 : Cond.fieldLink RX12 65 "DriverBookModel" "locksOn" "I" ∈ mTb := tm5 (List.mem_of_getElem? (i := 150) (by decide +kernel)) (by decide +kernel)
theorem ni_fRX12_68 : Cond.fieldLink RX12 68 "DriverBookModel" "value" "[I" ∈ mTb := tm5 (List.mem_of_getElem? (i := 152) (by decide +kernel)) (by decide +kernel)
theorem ni_fRX12_71 : Cond.fieldLink RX12 71 "DriverBookModel" "pending" "[I" ∈ mTb := tm5 (List.mem_of_getElem? (i := 153) (by decide +kernel)) (by decide +kernel)
theorem ni_fRX12_74 : Cond.fieldLink RX12 74 "DriverBookModel" "timer" "[I" ∈ mTb := tm5 (List.mem_of_getElem? (i := 154) (by decide +kernel)) (by decide +kernel)
theorem ni_fRX12_77 : Cond.fieldLink RX12 77 "DriverBookModel" "soft" "[I" ∈ mTb := tm5 (List.mem_of_getElem? (i := 155) (by decide +kernel)) (by decide +kernel)
theorem ni_fRX12_80 : Cond.fieldLink RX12 80 "DriverBookModel" "hit" "[I" ∈ mTb := tm5 (List.mem_of_getElem? (i := 156) (by decide +kernel)) (by decide +kernel)
theorem ni_fRX12_83 : Cond.fieldLink RX12 83 "DriverBookModel" "shadow" "[I" ∈ mTb := tm5 (List.mem_of_getElem? (i := 157) (by decide +kernel)) (by decide +kernel)
theorem ni_fRX12_86 : Cond.fieldLink RX12 86 "DriverBookModel" "eventField" "[I" ∈ mTb := tm5 (List.mem_of_getElem? (i := 159) (by decide +kernel)) (by decide +kernel)
theorem ni_fRX12_89 : Cond.fieldLink RX12 89 "DriverBookModel" "eventV" "[I" ∈ mTb := tm5 (List.mem_of_getElem? (i := 160) (by decide +kernel)) (by decide +kernel)
theorem ni_fRX12_92 : Cond.fieldLink RX12 92 "DriverBookModel" "eventTick" "[I" ∈ mTb := tm5 (List.mem_of_getElem? (i := 161) (by decide +kernel)) (by decide +kernel)
theorem ni_fRX12_95 : Cond.fieldLink RX12 95 "DriverBookModel" "sNow" "[I" ∈ mTb := tm5 (List.mem_of_getElem? (i := 167) (by decide +kernel)) (by decide +kernel)
theorem ni_fRX12_98 : Cond.fieldLink RX12 98 "DriverBookModel" "sValue" "[I" ∈ mTb := tm5 (List.mem_of_getElem? (i := 168) (by decide +kernel)) (by decide +kernel)
theorem ni_fRX12_101 : Cond.fieldLink RX12 101 "DriverBookModel" "sPending" "[I" ∈ mTb := tm5 (List.mem_of_getElem? (i := 169) (by decide +kernel)) (by decide +kernel)
theorem ni_fRX12_104 : Cond.fieldLink RX12 104 "DriverBookModel" "sTimer" "[I" ∈ mTb := tm5 (List.mem_of_getElem? (i := 170) (by decide +kernel)) (by decide +kernel)
theorem ni_fRX12_107 : Cond.fieldLink RX12 107 "DriverBookModel" "sSoft" "[I" ∈ mTb := tm5 (List.mem_of_getElem? (i := 171) (by decide +kernel)) (by decide +kernel)
theorem ni_fRX12_110 : Cond.fieldLink RX12 110 "DriverBookModel" "sHit" "[I" ∈ mTb := tm5 (List.mem_of_getElem? (i := 172) (by decide +kernel)) (by decide +kernel)
theorem ni_fRX12_113 : Cond.fieldLink RX12 113 "DriverBookModel" "sShadow" "[I" ∈ mTb := tm5 (List.mem_of_getElem? (i := 173) (by decide +kernel)) (by decide +kernel)
theorem ni_fRX12_116 : Cond.fieldLink RX12 116 "DriverBookModel" "sEvents" "[I" ∈ mTb := tm5 (List.mem_of_getElem? (i := 174) (by decide +kernel)) (by decide +kernel)
theorem ni_fRX12_119 : Cond.fieldLink RX12 119 "DriverBookModel" "sField" "[I" ∈ mTb := tm5 (List.mem_of_getElem? (i := 175) (by decide +kernel)) (by decide +kernel)
theorem ni_fRX12_122 : Cond.fieldLink RX12 122 "DriverBookModel" "sV" "[I" ∈ mTb := tm5 (List.mem_of_getElem? (i := 176) (by decide +kernel)) (by decide +kernel)
theorem ni_fRX12_125 : Cond.fieldLink RX12 125 "DriverBookModel" "sTick" "[I" ∈ mTb := tm5 (List.mem_of_getElem? (i := 177) (by decide +kernel)) (by decide +kernel)
theorem ni_fRX12_128 : Cond.fieldLink RX12 128 "DriverBookModel" "sBreaks" "[I" ∈ mTb := tm5 (List.mem_of_getElem? (i := 178) (by decide +kernel)) (by decide +kernel)
theorem ni_fRX12_131 : Cond.fieldLink RX12 131 "DriverBookModel" "sLaw" "[I" ∈ mTb := tm5 (List.mem_of_getElem? (i := 179) (by decide +kernel)) (by decide +kernel)
theorem ni_fRX12_134 : Cond.fieldLink RX12 134 "DriverBookModel" "sBreakNow" "[I" ∈ mTb := tm5 (List.mem_of_getElem? (i := 180) (by decide +kernel)) (by decide +kernel)
theorem ni_fRX12_137 : Cond.fieldLink RX12 137 "DriverBookModel" "sServed" "[I" ∈ mTb := tm5 (List.mem_of_getElem? (i := 181) (by decide +kernel)) (by decide +kernel)
theorem ni_fRX12_140 : Cond.fieldLink RX12 140 "DriverBookModel" "sResult" "[I" ∈ mTb := tm5 (List.mem_of_getElem? (i := 182) (by decide +kernel)) (by decide +kernel)
theorem ni_fRX12_143 : Cond.fieldLink RX12 143 "DriverBookModel" "sVersion" "[I" ∈ mTb := tm5 (List.mem_of_getElem? (i := 184) (by decide +kernel)) (by decide +kernel)
theorem ni_fRX12_146 : Cond.fieldLink RX12 146 "DriverBookModel" "whyWhich" "I" ∈ mTb := tm5 (List.mem_of_getElem? (i := 185) (by decide +kernel)) (by decide +kernel)
theorem ni_fRX12_149 : Cond.fieldLink RX12 149 "DriverBookModel" "whyField" "I" ∈ mTb := tm5 (List.mem_of_getElem? (i := 186) (by decide +kernel)) (by decide +kernel)
theorem ni_fRX12_152 : Cond.fieldLink RX12 152 "DriverBookModel" "sort" "[I" ∈ mTb := tm5 (List.mem_of_getElem? (i := 187) (by decide +kernel)) (by decide +kernel)
theorem ni_fRX12_155 : Cond.fieldLink RX12 155 "DriverBookModel" "size" "[I" ∈ mTb := tm5 (List.mem_of_getElem? (i := 188) (by decide +kernel)) (by decide +kernel)
theorem ni_fRX12_158 : Cond.fieldLink RX12 158 "DriverBookModel" "cells" "[J" ∈ mTb := tm5 (List.mem_of_getElem? (i := 189) (by decide +kernel)) (by decide +kernel)
theorem ni_a_boolean : Cond.arrayClass .boolean ∈ mTb := tm6 (List.mem_of_getElem? (i := 96) (by decide +kernel)) (by decide +kernel)
theorem ni_fRX12_162 : Cond.fieldLink RX12 162 "DriverBookModel" "isHit" "[Z" ∈ mTb := tm5 (List.mem_of_getElem? (i := 191) (by decide +kernel)) (by decide +kernel)
theorem ni_fRX12_166 : Cond.fieldLink RX12 166 "DriverBookModel" "ops" "[I" ∈ mTb := tm5 (List.mem_of_getElem? (i := 192) (by decide +kernel)) (by decide +kernel)
theorem ni_fRX12_169 : Cond.fieldLink RX12 169 "DriverBookModel" "op" "[I" ∈ mTb := tm5 (List.mem_of_getElem? (i := 193) (by decide +kernel)) (by decide +kernel)
theorem ni_fRX12_172 : Cond.fieldLink RX12 172 "DriverBookModel" "acc" "[I" ∈ mTb := tm5 (List.mem_of_getElem? (i := 194) (by decide +kernel)) (by decide +kernel)
theorem ni_fRX12_175 : Cond.fieldLink RX12 175 "DriverBookModel" "moved" "[J" ∈ mTb := tm5 (List.mem_of_getElem? (i := 196) (by decide +kernel)) (by decide +kernel)
theorem me_X12_init : mMe yX12_init cX12_init 1 none 0 := ⟨tm5 (List.mem_of_getElem? (i := 126) (by decide +kernel)) (by decide +kernel), tm1 (List.mem_of_getElem? (i := 14) (by decide +kernel)) (by decide +kernel), by decide +kernel, by decide +kernel, by decide +kernel⟩
theorem mi_X12_init : Cond.instanceMethod yX12_init ∈ mTb := tm5 (List.mem_of_getElem? (i := 125) (by decide +kernel)) (by decide +kernel)
theorem dX4_init_0 : decode cX4_init 0 = .ok (.aload_n 0, 1) := by decide +kernel
theorem dX4_init_1 : decode cX4_init 1 = .ok (.invokespecial 1, 3) := by decide +kernel
theorem dX4_init_4 : decode cX4_init 4 = .ok (.return_, 1) := by decide +kernel
theorem dX6_init_0 : decode cX6_init 0 = .ok (.aload_n 0, 1) := by decide +kernel
theorem dX6_init_1 : decode cX6_init 1 = .ok (.invokespecial 1, 3) := by decide +kernel
theorem dX6_init_4 : decode cX6_init 4 = .ok (.return_, 1) := by decide +kernel
theorem dX7_init_0 : decode cX7_init 0 = .ok (.aload_n 0, 1) := by decide +kernel
theorem dX7_init_1 : decode cX7_init 1 = .ok (.invokespecial 1, 3) := by decide +kernel
theorem dX7_init_4 : decode cX7_init 4 = .ok (.return_, 1) := by decide +kernel
theorem dX3_init_0 : decode cX3_init 0 = .ok (.aload_n 0, 1) := by decide +kernel
theorem dX3_init_1 : decode cX3_init 1 = .ok (.invokespecial 3, 3) := by decide +kernel
theorem dX3_init_4 : decode cX3_init 4 = .ok (.aload_n 0, 1) := by decide +kernel
theorem dX3_init_5 : decode cX3_init 5 = .ok (.sipush 288, 3) := by decide +kernel
theorem dX3_init_8 : decode cX3_init 8 = .ok (.newarray .int, 2) := by decide +kernel
theorem dX3_init_10 : decode cX3_init 10 = .ok (.putfield 11, 3) := by decide +kernel
theorem dX3_init_13 : decode cX3_init 13 = .ok (.aload_n 0, 1) := by decide +kernel
theorem dX3_init_14 : decode cX3_init 14 = .ok (.iconst 0, 1) := by decide +kernel
theorem dX3_init_15 : decode cX3_init 15 = .ok (.putfield 15, 3) := by decide +kernel
theorem dX3_init_18 : decode cX3_init 18 = .ok (.aload_n 0, 1) := by decide +kernel
theorem dX3_init_19 : decode cX3_init 19 = .ok (.iconst 0, 1) := by decide +kernel
theorem dX3_init_20 : decode cX3_init 20 = .ok (.putfield 19, 3) := by decide +kernel
theorem dX3_init_23 : decode cX3_init 23 = .ok (.aload_n 0, 1) := by decide +kernel
theorem dX3_init_24 : decode cX3_init 24 = .ok (.iconst 0, 1) := by decide +kernel
theorem dX3_init_25 : decode cX3_init 25 = .ok (.putfield 22, 3) := by decide +kernel
theorem dX3_init_28 : decode cX3_init 28 = .ok (.aload_n 0, 1) := by decide +kernel
theorem dX3_init_29 : decode cX3_init 29 = .ok (.iconst 0, 1) := by decide +kernel
theorem dX3_init_30 : decode cX3_init 30 = .ok (.putfield 25, 3) := by decide +kernel
theorem dX3_init_33 : decode cX3_init 33 = .ok (.aload_n 0, 1) := by decide +kernel
theorem dX3_init_34 : decode cX3_init 34 = .ok (.iconst 0, 1) := by decide +kernel
theorem dX3_init_35 : decode cX3_init 35 = .ok (.putfield 28, 3) := by decide +kernel
theorem dX3_init_38 : decode cX3_init 38 = .ok (.return_, 1) := by decide +kernel
theorem dX0_init_0 : decode cX0_init 0 = .ok (.aload_n 0, 1) := by decide +kernel
theorem dX0_init_1 : decode cX0_init 1 = .ok (.invokespecial 3, 3) := by decide +kernel
theorem dX0_init_4 : decode cX0_init 4 = .ok (.aload_n 0, 1) := by decide +kernel
theorem dX0_init_5 : decode cX0_init 5 = .ok (.bipush 12, 2) := by decide +kernel
theorem dX0_init_7 : decode cX0_init 7 = .ok (.newarray .int, 2) := by decide +kernel
theorem dX0_init_9 : decode cX0_init 9 = .ok (.putfield 9, 3) := by decide +kernel
theorem dX0_init_12 : decode cX0_init 12 = .ok (.aload_n 0, 1) := by decide +kernel
theorem dX0_init_13 : decode cX0_init 13 = .ok (.bipush 12, 2) := by decide +kernel
theorem dX0_init_15 : decode cX0_init 15 = .ok (.newarray .int, 2) := by decide +kernel
theorem dX0_init_17 : decode cX0_init 17 = .ok (.putfield 15, 3) := by decide +kernel
theorem dX0_init_20 : decode cX0_init 20 = .ok (.aload_n 0, 1) := by decide +kernel
theorem dX0_init_21 : decode cX0_init 21 = .ok (.bipush 12, 2) := by decide +kernel
theorem dX0_init_23 : decode cX0_init 23 = .ok (.newarray .int, 2) := by decide +kernel
theorem dX0_init_25 : decode cX0_init 25 = .ok (.putfield 18, 3) := by decide +kernel
theorem dX0_init_28 : decode cX0_init 28 = .ok (.aload_n 0, 1) := by decide +kernel
theorem dX0_init_29 : decode cX0_init 29 = .ok (.bipush 12, 2) := by decide +kernel
theorem dX0_init_31 : decode cX0_init 31 = .ok (.newarray .int, 2) := by decide +kernel
theorem dX0_init_33 : decode cX0_init 33 = .ok (.putfield 21, 3) := by decide +kernel
theorem dX0_init_36 : decode cX0_init 36 = .ok (.aload_n 0, 1) := by decide +kernel
theorem dX0_init_37 : decode cX0_init 37 = .ok (.new 24, 3) := by decide +kernel
theorem dX0_init_40 : decode cX0_init 40 = .ok (.dup, 1) := by decide +kernel
theorem dX0_init_41 : decode cX0_init 41 = .ok (.invokespecial 26, 3) := by decide +kernel
theorem dX0_init_44 : decode cX0_init 44 = .ok (.putfield 27, 3) := by decide +kernel
theorem dX0_init_47 : decode cX0_init 47 = .ok (.aload_n 0, 1) := by decide +kernel
theorem dX0_init_48 : decode cX0_init 48 = .ok (.iconst 0, 1) := by decide +kernel
theorem dX0_init_49 : decode cX0_init 49 = .ok (.putfield 31, 3) := by decide +kernel
theorem dX0_init_52 : decode cX0_init 52 = .ok (.return_, 1) := by decide +kernel
theorem dX8_init_0 : decode cX8_init 0 = .ok (.aload_n 0, 1) := by decide +kernel
theorem dX8_init_1 : decode cX8_init 1 = .ok (.invokespecial 3, 3) := by decide +kernel
theorem dX8_init_4 : decode cX8_init 4 = .ok (.aload_n 0, 1) := by decide +kernel
theorem dX8_init_5 : decode cX8_init 5 = .ok (.bipush 24, 2) := by decide +kernel
theorem dX8_init_7 : decode cX8_init 7 = .ok (.newarray .int, 2) := by decide +kernel
theorem dX8_init_9 : decode cX8_init 9 = .ok (.putfield 9, 3) := by decide +kernel
theorem dX8_init_12 : decode cX8_init 12 = .ok (.aload_n 0, 1) := by decide +kernel
theorem dX8_init_13 : decode cX8_init 13 = .ok (.bipush 24, 2) := by decide +kernel
theorem dX8_init_15 : decode cX8_init 15 = .ok (.newarray .int, 2) := by decide +kernel
theorem dX8_init_17 : decode cX8_init 17 = .ok (.putfield 15, 3) := by decide +kernel
theorem dX8_init_20 : decode cX8_init 20 = .ok (.aload_n 0, 1) := by decide +kernel
theorem dX8_init_21 : decode cX8_init 21 = .ok (.bipush 24, 2) := by decide +kernel
theorem dX8_init_23 : decode cX8_init 23 = .ok (.newarray .int, 2) := by decide +kernel
theorem dX8_init_25 : decode cX8_init 25 = .ok (.putfield 18, 3) := by decide +kernel
theorem dX8_init_28 : decode cX8_init 28 = .ok (.aload_n 0, 1) := by decide +kernel
theorem dX8_init_29 : decode cX8_init 29 = .ok (.bipush 24, 2) := by decide +kernel
theorem dX8_init_31 : decode cX8_init 31 = .ok (.newarray .int, 2) := by decide +kernel
theorem dX8_init_33 : decode cX8_init 33 = .ok (.putfield 21, 3) := by decide +kernel
theorem dX8_init_36 : decode cX8_init 36 = .ok (.aload_n 0, 1) := by decide +kernel
theorem dX8_init_37 : decode cX8_init 37 = .ok (.bipush 24, 2) := by decide +kernel
theorem dX8_init_39 : decode cX8_init 39 = .ok (.newarray .long, 2) := by decide +kernel
theorem dX8_init_41 : decode cX8_init 41 = .ok (.putfield 24, 3) := by decide +kernel
theorem dX8_init_44 : decode cX8_init 44 = .ok (.aload_n 0, 1) := by decide +kernel
theorem dX8_init_45 : decode cX8_init 45 = .ok (.bipush 8, 2) := by decide +kernel
theorem dX8_init_47 : decode cX8_init 47 = .ok (.newarray .int, 2) := by decide +kernel
theorem dX8_init_49 : decode cX8_init 49 = .ok (.putfield 28, 3) := by decide +kernel
theorem dX8_init_52 : decode cX8_init 52 = .ok (.aload_n 0, 1) := by decide +kernel
theorem dX8_init_53 : decode cX8_init 53 = .ok (.bipush 16, 2) := by decide +kernel
theorem dX8_init_55 : decode cX8_init 55 = .ok (.newarray .int, 2) := by decide +kernel
theorem dX8_init_57 : decode cX8_init 57 = .ok (.putfield 31, 3) := by decide +kernel
theorem dX8_init_60 : decode cX8_init 60 = .ok (.aload_n 0, 1) := by decide +kernel
theorem dX8_init_61 : decode cX8_init 61 = .ok (.bipush 16, 2) := by decide +kernel
theorem dX8_init_63 : decode cX8_init 63 = .ok (.newarray .int, 2) := by decide +kernel
theorem dX8_init_65 : decode cX8_init 65 = .ok (.putfield 34, 3) := by decide +kernel
theorem dX8_init_68 : decode cX8_init 68 = .ok (.aload_n 0, 1) := by decide +kernel
theorem dX8_init_69 : decode cX8_init 69 = .ok (.bipush 16, 2) := by decide +kernel
theorem dX8_init_71 : decode cX8_init 71 = .ok (.newarray .long, 2) := by decide +kernel
theorem dX8_init_73 : decode cX8_init 73 = .ok (.putfield 37, 3) := by decide +kernel
theorem dX8_init_76 : decode cX8_init 76 = .ok (.aload_n 0, 1) := by decide +kernel
theorem dX8_init_77 : decode cX8_init 77 = .ok (.iconst 0, 1) := by decide +kernel
theorem dX8_init_78 : decode cX8_init 78 = .ok (.putfield 40, 3) := by decide +kernel
theorem dX8_init_81 : decode cX8_init 81 = .ok (.aload_n 0, 1) := by decide +kernel
theorem dX8_init_82 : decode cX8_init 82 = .ok (.lconst 0, 1) := by decide +kernel
theorem dX8_init_83 : decode cX8_init 83 = .ok (.putfield 44, 3) := by decide +kernel
theorem dX8_init_86 : decode cX8_init 86 = .ok (.aload_n 0, 1) := by decide +kernel
theorem dX8_init_87 : decode cX8_init 87 = .ok (.iconst 0, 1) := by decide +kernel
theorem dX8_init_88 : decode cX8_init 88 = .ok (.putfield 48, 3) := by decide +kernel
theorem dX8_init_91 : decode cX8_init 91 = .ok (.aload_n 0, 1) := by decide +kernel
theorem dX8_init_92 : decode cX8_init 92 = .ok (.iconst 0, 1) := by decide +kernel
theorem dX8_init_93 : decode cX8_init 93 = .ok (.putfield 51, 3) := by decide +kernel
theorem dX8_init_96 : decode cX8_init 96 = .ok (.aload_n 0, 1) := by decide +kernel
theorem dX8_init_97 : decode cX8_init 97 = .ok (.lconst 0, 1) := by decide +kernel
theorem dX8_init_98 : decode cX8_init 98 = .ok (.putfield 54, 3) := by decide +kernel
theorem dX8_init_101 : decode cX8_init 101 = .ok (.aload_n 0, 1) := by decide +kernel
theorem dX8_init_102 : decode cX8_init 102 = .ok (.iconst (-1), 1) := by decide +kernel
theorem dX8_init_103 : decode cX8_init 103 = .ok (.putfield 57, 3) := by decide +kernel
theorem dX8_init_106 : decode cX8_init 106 = .ok (.aload_n 0, 1) := by decide +kernel
theorem dX8_init_107 : decode cX8_init 107 = .ok (.ldc2_w 60, 3) := by decide +kernel
theorem dX8_init_110 : decode cX8_init 110 = .ok (.putfield 62, 3) := by decide +kernel
theorem dX8_init_113 : decode cX8_init 113 = .ok (.aload_n 0, 1) := by decide +kernel
theorem dX8_init_114 : decode cX8_init 114 = .ok (.getfield 24, 3) := by decide +kernel
theorem dX8_init_117 : decode cX8_init 117 = .ok (.ldc2_w 60, 3) := by decide +kernel
theorem dX8_init_120 : decode cX8_init 120 = .ok (.invokestatic 65, 3) := by decide +kernel
theorem dX8_init_123 : decode cX8_init 123 = .ok (.return_, 1) := by decide +kernel
theorem dX2_init_0 : decode cX2_init 0 = .ok (.aload_n 0, 1) := by decide +kernel
theorem dX2_init_1 : decode cX2_init 1 = .ok (.invokespecial 3, 3) := by decide +kernel
theorem dX2_init_4 : decode cX2_init 4 = .ok (.aload_n 0, 1) := by decide +kernel
theorem dX2_init_5 : decode cX2_init 5 = .ok (.bipush 8, 2) := by decide +kernel
theorem dX2_init_7 : decode cX2_init 7 = .ok (.bipush 16, 2) := by decide +kernel
theorem dX2_init_9 : decode cX2_init 9 = .ok (.multianewarray 9 2, 4) := by decide +kernel
theorem dX2_init_13 : decode cX2_init 13 = .ok (.putfield 11, 3) := by decide +kernel
theorem dX2_init_16 : decode cX2_init 16 = .ok (.aload_n 0, 1) := by decide +kernel
theorem dX2_init_17 : decode cX2_init 17 = .ok (.bipush 8, 2) := by decide +kernel
theorem dX2_init_19 : decode cX2_init 19 = .ok (.newarray .int, 2) := by decide +kernel
theorem dX2_init_21 : decode cX2_init 21 = .ok (.putfield 16, 3) := by decide +kernel
theorem dX2_init_24 : decode cX2_init 24 = .ok (.aload_n 0, 1) := by decide +kernel
theorem dX2_init_25 : decode cX2_init 25 = .ok (.bipush 8, 2) := by decide +kernel
theorem dX2_init_27 : decode cX2_init 27 = .ok (.newarray .int, 2) := by decide +kernel
theorem dX2_init_29 : decode cX2_init 29 = .ok (.putfield 20, 3) := by decide +kernel
theorem dX2_init_32 : decode cX2_init 32 = .ok (.aload_n 0, 1) := by decide +kernel
theorem dX2_init_33 : decode cX2_init 33 = .ok (.bipush 24, 2) := by decide +kernel
theorem dX2_init_35 : decode cX2_init 35 = .ok (.newarray .int, 2) := by decide +kernel
theorem dX2_init_37 : decode cX2_init 37 = .ok (.putfield 23, 3) := by decide +kernel
theorem dX2_init_40 : decode cX2_init 40 = .ok (.aload_n 0, 1) := by decide +kernel
theorem dX2_init_41 : decode cX2_init 41 = .ok (.iconst 0, 1) := by decide +kernel
theorem dX2_init_42 : decode cX2_init 42 = .ok (.putfield 26, 3) := by decide +kernel
theorem dX2_init_45 : decode cX2_init 45 = .ok (.aload_n 0, 1) := by decide +kernel
theorem dX2_init_46 : decode cX2_init 46 = .ok (.aload_n 1, 1) := by decide +kernel
theorem dX2_init_47 : decode cX2_init 47 = .ok (.putfield 30, 3) := by decide +kernel
theorem dX2_init_50 : decode cX2_init 50 = .ok (.aload_n 0, 1) := by decide +kernel
theorem dX2_init_51 : decode cX2_init 51 = .ok (.aload_n 2, 1) := by decide +kernel
theorem dX2_init_52 : decode cX2_init 52 = .ok (.putfield 34, 3) := by decide +kernel
theorem dX2_init_55 : decode cX2_init 55 = .ok (.return_, 1) := by decide +kernel
theorem dX5_init_0 : decode cX5_init 0 = .ok (.aload_n 0, 1) := by decide +kernel
theorem dX5_init_1 : decode cX5_init 1 = .ok (.invokespecial 5, 3) := by decide +kernel
theorem dX5_init_4 : decode cX5_init 4 = .ok (.aload_n 0, 1) := by decide +kernel
theorem dX5_init_5 : decode cX5_init 5 = .ok (.new 11, 3) := by decide +kernel
theorem dX5_init_8 : decode cX5_init 8 = .ok (.dup, 1) := by decide +kernel
theorem dX5_init_9 : decode cX5_init 9 = .ok (.invokespecial 13, 3) := by decide +kernel
theorem dX5_init_12 : decode cX5_init 12 = .ok (.putfield 14, 3) := by decide +kernel
theorem dX5_init_15 : decode cX5_init 15 = .ok (.aload_n 0, 1) := by decide +kernel
theorem dX5_init_16 : decode cX5_init 16 = .ok (.new 11, 3) := by decide +kernel
theorem dX5_init_19 : decode cX5_init 19 = .ok (.dup, 1) := by decide +kernel
theorem dX5_init_20 : decode cX5_init 20 = .ok (.invokespecial 13, 3) := by decide +kernel
theorem dX5_init_23 : decode cX5_init 23 = .ok (.putfield 20, 3) := by decide +kernel
theorem dX5_init_26 : decode cX5_init 26 = .ok (.aload_n 0, 1) := by decide +kernel
theorem dX5_init_27 : decode cX5_init 27 = .ok (.iconst 0, 1) := by decide +kernel
theorem dX5_init_28 : decode cX5_init 28 = .ok (.putfield 23, 3) := by decide +kernel
theorem dX5_init_31 : decode cX5_init 31 = .ok (.aload_n 0, 1) := by decide +kernel
theorem dX5_init_32 : decode cX5_init 32 = .ok (.aload_n 1, 1) := by decide +kernel
theorem dX5_init_33 : decode cX5_init 33 = .ok (.putfield 27, 3) := by decide +kernel
theorem dX5_init_36 : decode cX5_init 36 = .ok (.aload_n 0, 1) := by decide +kernel
theorem dX5_init_37 : decode cX5_init 37 = .ok (.aload_n 2, 1) := by decide +kernel
theorem dX5_init_38 : decode cX5_init 38 = .ok (.putfield 31, 3) := by decide +kernel
theorem dX5_init_41 : decode cX5_init 41 = .ok (.aload_n 0, 1) := by decide +kernel
theorem dX5_init_42 : decode cX5_init 42 = .ok (.aload_n 3, 1) := by decide +kernel
theorem dX5_init_43 : decode cX5_init 43 = .ok (.putfield 35, 3) := by decide +kernel
theorem dX5_init_46 : decode cX5_init 46 = .ok (.return_, 1) := by decide +kernel
theorem dX9_init_0 : decode cX9_init 0 = .ok (.aload_n 0, 1) := by decide +kernel
theorem dX9_init_1 : decode cX9_init 1 = .ok (.invokespecial 3, 3) := by decide +kernel
theorem dX9_init_4 : decode cX9_init 4 = .ok (.aload_n 0, 1) := by decide +kernel
theorem dX9_init_5 : decode cX9_init 5 = .ok (.iconst 0, 1) := by decide +kernel
theorem dX9_init_6 : decode cX9_init 6 = .ok (.putfield 11, 3) := by decide +kernel
theorem dX9_init_9 : decode cX9_init 9 = .ok (.aload_n 0, 1) := by decide +kernel
theorem dX9_init_10 : decode cX9_init 10 = .ok (.iconst 0, 1) := by decide +kernel
theorem dX9_init_11 : decode cX9_init 11 = .ok (.putfield 15, 3) := by decide +kernel
theorem dX9_init_14 : decode cX9_init 14 = .ok (.aload_n 0, 1) := by decide +kernel
theorem dX9_init_15 : decode cX9_init 15 = .ok (.bipush 64, 2) := by decide +kernel
theorem dX9_init_17 : decode cX9_init 17 = .ok (.newarray .long, 2) := by decide +kernel
theorem dX9_init_19 : decode cX9_init 19 = .ok (.putfield 18, 3) := by decide +kernel
theorem dX9_init_22 : decode cX9_init 22 = .ok (.aload_n 0, 1) := by decide +kernel
theorem dX9_init_23 : decode cX9_init 23 = .ok (.new 22, 3) := by decide +kernel
theorem dX9_init_26 : decode cX9_init 26 = .ok (.dup, 1) := by decide +kernel
theorem dX9_init_27 : decode cX9_init 27 = .ok (.invokespecial 24, 3) := by decide +kernel
theorem dX9_init_30 : decode cX9_init 30 = .ok (.putfield 25, 3) := by decide +kernel
theorem dX9_init_33 : decode cX9_init 33 = .ok (.aload_n 0, 1) := by decide +kernel
theorem dX9_init_34 : decode cX9_init 34 = .ok (.iconst 0, 1) := by decide +kernel
theorem dX9_init_35 : decode cX9_init 35 = .ok (.putfield 29, 3) := by decide +kernel
theorem dX9_init_38 : decode cX9_init 38 = .ok (.return_, 1) := by decide +kernel
theorem dX10_init_0 : decode cX10_init 0 = .ok (.aload_n 0, 1) := by decide +kernel
theorem dX10_init_1 : decode cX10_init 1 = .ok (.invokespecial 3, 3) := by decide +kernel
theorem dX10_init_4 : decode cX10_init 4 = .ok (.aload_n 0, 1) := by decide +kernel
theorem dX10_init_5 : decode cX10_init 5 = .ok (.new 9, 3) := by decide +kernel
theorem dX10_init_8 : decode cX10_init 8 = .ok (.dup, 1) := by decide +kernel
theorem dX10_init_9 : decode cX10_init 9 = .ok (.invokespecial 11, 3) := by decide +kernel
theorem dX10_init_12 : decode cX10_init 12 = .ok (.putfield 12, 3) := by decide +kernel
theorem dX10_init_15 : decode cX10_init 15 = .ok (.aload_n 0, 1) := by decide +kernel
theorem dX10_init_16 : decode cX10_init 16 = .ok (.bipush 24, 2) := by decide +kernel
theorem dX10_init_18 : decode cX10_init 18 = .ok (.newarray .int, 2) := by decide +kernel
theorem dX10_init_20 : decode cX10_init 20 = .ok (.putfield 18, 3) := by decide +kernel
theorem dX10_init_23 : decode cX10_init 23 = .ok (.aload_n 0, 1) := by decide +kernel
theorem dX10_init_24 : decode cX10_init 24 = .ok (.bipush 24, 2) := by decide +kernel
theorem dX10_init_26 : decode cX10_init 26 = .ok (.newarray .int, 2) := by decide +kernel
theorem dX10_init_28 : decode cX10_init 28 = .ok (.putfield 22, 3) := by decide +kernel
theorem dX10_init_31 : decode cX10_init 31 = .ok (.aload_n 0, 1) := by decide +kernel
theorem dX10_init_32 : decode cX10_init 32 = .ok (.iconst 0, 1) := by decide +kernel
theorem dX10_init_33 : decode cX10_init 33 = .ok (.putfield 25, 3) := by decide +kernel
theorem dX10_init_36 : decode cX10_init 36 = .ok (.aload_n 0, 1) := by decide +kernel
theorem dX10_init_37 : decode cX10_init 37 = .ok (.bipush (-2), 2) := by decide +kernel
theorem dX10_init_39 : decode cX10_init 39 = .ok (.putfield 29, 3) := by decide +kernel
theorem dX10_init_42 : decode cX10_init 42 = .ok (.aload_n 0, 1) := by decide +kernel
theorem dX10_init_43 : decode cX10_init 43 = .ok (.aload_n 1, 1) := by decide +kernel
theorem dX10_init_44 : decode cX10_init 44 = .ok (.putfield 32, 3) := by decide +kernel
theorem dX10_init_47 : decode cX10_init 47 = .ok (.aload_n 0, 1) := by decide +kernel
theorem dX10_init_48 : decode cX10_init 48 = .ok (.aload_n 2, 1) := by decide +kernel
theorem dX10_init_49 : decode cX10_init 49 = .ok (.putfield 36, 3) := by decide +kernel
theorem dX10_init_52 : decode cX10_init 52 = .ok (.aload_n 0, 1) := by decide +kernel
theorem dX10_init_53 : decode cX10_init 53 = .ok (.aload_n 3, 1) := by decide +kernel
theorem dX10_init_54 : decode cX10_init 54 = .ok (.putfield 39, 3) := by decide +kernel
theorem dX10_init_57 : decode cX10_init 57 = .ok (.return_, 1) := by decide +kernel
theorem dX1_init_0 : decode cX1_init 0 = .ok (.aload_n 0, 1) := by decide +kernel
theorem dX1_init_1 : decode cX1_init 1 = .ok (.invokespecial 3, 3) := by decide +kernel
theorem dX1_init_4 : decode cX1_init 4 = .ok (.aload_n 0, 1) := by decide +kernel
theorem dX1_init_5 : decode cX1_init 5 = .ok (.bipush 24, 2) := by decide +kernel
theorem dX1_init_7 : decode cX1_init 7 = .ok (.anewarray 9, 3) := by decide +kernel
theorem dX1_init_10 : decode cX1_init 10 = .ok (.putfield 11, 3) := by decide +kernel
theorem dX1_init_13 : decode cX1_init 13 = .ok (.aload_n 0, 1) := by decide +kernel
theorem dX1_init_14 : decode cX1_init 14 = .ok (.bipush 12, 2) := by decide +kernel
theorem dX1_init_16 : decode cX1_init 16 = .ok (.anewarray 17, 3) := by decide +kernel
theorem dX1_init_19 : decode cX1_init 19 = .ok (.putfield 19, 3) := by decide +kernel
theorem dX1_init_22 : decode cX1_init 22 = .ok (.aload_n 0, 1) := by decide +kernel
theorem dX1_init_23 : decode cX1_init 23 = .ok (.bipush 6, 2) := by decide +kernel
theorem dX1_init_25 : decode cX1_init 25 = .ok (.anewarray 23, 3) := by decide +kernel
theorem dX1_init_28 : decode cX1_init 28 = .ok (.putfield 25, 3) := by decide +kernel
theorem dX1_init_31 : decode cX1_init 31 = .ok (.aload_n 0, 1) := by decide +kernel
theorem dX1_init_32 : decode cX1_init 32 = .ok (.iconst 4, 1) := by decide +kernel
theorem dX1_init_33 : decode cX1_init 33 = .ok (.putfield 29, 3) := by decide +kernel
theorem dX1_init_36 : decode cX1_init 36 = .ok (.aload_n 0, 1) := by decide +kernel
theorem dX1_init_37 : decode cX1_init 37 = .ok (.iconst 0, 1) := by decide +kernel
theorem dX1_init_38 : decode cX1_init 38 = .ok (.putfield 33, 3) := by decide +kernel
theorem dX1_init_41 : decode cX1_init 41 = .ok (.aload_n 0, 1) := by decide +kernel
theorem dX1_init_42 : decode cX1_init 42 = .ok (.iconst 0, 1) := by decide +kernel
theorem dX1_init_43 : decode cX1_init 43 = .ok (.putfield 36, 3) := by decide +kernel
theorem dX1_init_46 : decode cX1_init 46 = .ok (.aload_n 0, 1) := by decide +kernel
theorem dX1_init_47 : decode cX1_init 47 = .ok (.iconst 0, 1) := by decide +kernel
theorem dX1_init_48 : decode cX1_init 48 = .ok (.putfield 39, 3) := by decide +kernel
theorem dX1_init_51 : decode cX1_init 51 = .ok (.aload_n 0, 1) := by decide +kernel
theorem dX1_init_52 : decode cX1_init 52 = .ok (.iconst 1, 1) := by decide +kernel
theorem dX1_init_53 : decode cX1_init 53 = .ok (.putfield 42, 3) := by decide +kernel
theorem dX1_init_56 : decode cX1_init 56 = .ok (.aload_n 0, 1) := by decide +kernel
theorem dX1_init_57 : decode cX1_init 57 = .ok (.iconst 0, 1) := by decide +kernel
theorem dX1_init_58 : decode cX1_init 58 = .ok (.putfield 45, 3) := by decide +kernel
theorem dX1_init_61 : decode cX1_init 61 = .ok (.aload_n 0, 1) := by decide +kernel
theorem dX1_init_62 : decode cX1_init 62 = .ok (.iconst 0, 1) := by decide +kernel
theorem dX1_init_63 : decode cX1_init 63 = .ok (.putfield 48, 3) := by decide +kernel
theorem dX1_init_66 : decode cX1_init 66 = .ok (.iconst 0, 1) := by decide +kernel
theorem dX1_init_67 : decode cX1_init 67 = .ok (.istore_n 1, 1) := by decide +kernel
theorem dX1_init_68 : decode cX1_init 68 = .ok (.iload_n 1, 1) := by decide +kernel
theorem dX1_init_69 : decode cX1_init 69 = .ok (.bipush 24, 2) := by decide +kernel
theorem dX1_init_71 : decode cX1_init 71 = .ok (.if_icmp .ge 22, 3) := by decide +kernel
theorem dX1_init_74 : decode cX1_init 74 = .ok (.aload_n 0, 1) := by decide +kernel
theorem dX1_init_75 : decode cX1_init 75 = .ok (.getfield 11, 3) := by decide +kernel
theorem dX1_init_78 : decode cX1_init 78 = .ok (.iload_n 1, 1) := by decide +kernel
theorem dX1_init_79 : decode cX1_init 79 = .ok (.new 9, 3) := by decide +kernel
theorem dX1_init_82 : decode cX1_init 82 = .ok (.dup, 1) := by decide +kernel
theorem dX1_init_83 : decode cX1_init 83 = .ok (.invokespecial 52, 3) := by decide +kernel
theorem dX1_init_86 : decode cX1_init 86 = .ok (.aastore, 1) := by decide +kernel
theorem dX1_init_87 : decode cX1_init 87 = .ok (.iinc 1 1, 3) := by decide +kernel
theorem dX1_init_90 : decode cX1_init 90 = .ok (.goto (-22), 3) := by decide +kernel
theorem dX1_init_93 : decode cX1_init 93 = .ok (.iconst 0, 1) := by decide +kernel
theorem dX1_init_94 : decode cX1_init 94 = .ok (.istore_n 1, 1) := by decide +kernel
theorem dX1_init_95 : decode cX1_init 95 = .ok (.iload_n 1, 1) := by decide +kernel
theorem dX1_init_96 : decode cX1_init 96 = .ok (.bipush 12, 2) := by decide +kernel
theorem dX1_init_98 : decode cX1_init 98 = .ok (.if_icmp .ge 22, 3) := by decide +kernel
theorem dX1_init_101 : decode cX1_init 101 = .ok (.aload_n 0, 1) := by decide +kernel
theorem dX1_init_102 : decode cX1_init 102 = .ok (.getfield 19, 3) := by decide +kernel
theorem dX1_init_105 : decode cX1_init 105 = .ok (.iload_n 1, 1) := by decide +kernel
theorem dX1_init_106 : decode cX1_init 106 = .ok (.new 17, 3) := by decide +kernel
theorem dX1_init_109 : decode cX1_init 109 = .ok (.dup, 1) := by decide +kernel
theorem dX1_init_110 : decode cX1_init 110 = .ok (.invokespecial 53, 3) := by decide +kernel
theorem dX1_init_113 : decode cX1_init 113 = .ok (.aastore, 1) := by decide +kernel
theorem dX1_init_114 : decode cX1_init 114 = .ok (.iinc 1 1, 3) := by decide +kernel
theorem dX1_init_117 : decode cX1_init 117 = .ok (.goto (-22), 3) := by decide +kernel
theorem dX1_init_120 : decode cX1_init 120 = .ok (.iconst 0, 1) := by decide +kernel
theorem dX1_init_121 : decode cX1_init 121 = .ok (.istore_n 1, 1) := by decide +kernel
theorem dX1_init_122 : decode cX1_init 122 = .ok (.iload_n 1, 1) := by decide +kernel
theorem dX1_init_123 : decode cX1_init 123 = .ok (.bipush 6, 2) := by decide +kernel
theorem dX1_init_125 : decode cX1_init 125 = .ok (.if_icmp .ge 22, 3) := by decide +kernel
theorem dX1_init_128 : decode cX1_init 128 = .ok (.aload_n 0, 1) := by decide +kernel
theorem dX1_init_129 : decode cX1_init 129 = .ok (.getfield 25, 3) := by decide +kernel
theorem dX1_init_132 : decode cX1_init 132 = .ok (.iload_n 1, 1) := by decide +kernel
theorem dX1_init_133 : decode cX1_init 133 = .ok (.new 23, 3) := by decide +kernel
theorem dX1_init_136 : decode cX1_init 136 = .ok (.dup, 1) := by decide +kernel
theorem dX1_init_137 : decode cX1_init 137 = .ok (.invokespecial 54, 3) := by decide +kernel
theorem dX1_init_140 : decode cX1_init 140 = .ok (.aastore, 1) := by decide +kernel
theorem dX1_init_141 : decode cX1_init 141 = .ok (.iinc 1 1, 3) := by decide +kernel
theorem dX1_init_144 : decode cX1_init 144 = .ok (.goto (-22), 3) := by decide +kernel
theorem dX1_init_147 : decode cX1_init 147 = .ok (.return_, 1) := by decide +kernel
theorem dX11_init_0 : decode cX11_init 0 = .ok (.aload_n 0, 1) := by decide +kernel
theorem dX11_init_1 : decode cX11_init 1 = .ok (.invokespecial 1, 3) := by decide +kernel
theorem dX11_init_4 : decode cX11_init 4 = .ok (.aload_n 0, 1) := by decide +kernel
theorem dX11_init_5 : decode cX11_init 5 = .ok (.new 7, 3) := by decide +kernel
theorem dX11_init_8 : decode cX11_init 8 = .ok (.dup, 1) := by decide +kernel
theorem dX11_init_9 : decode cX11_init 9 = .ok (.invokespecial 9, 3) := by decide +kernel
theorem dX11_init_12 : decode cX11_init 12 = .ok (.putfield 10, 3) := by decide +kernel
theorem dX11_init_15 : decode cX11_init 15 = .ok (.aload_n 0, 1) := by decide +kernel
theorem dX11_init_16 : decode cX11_init 16 = .ok (.new 16, 3) := by decide +kernel
theorem dX11_init_19 : decode cX11_init 19 = .ok (.dup, 1) := by decide +kernel
theorem dX11_init_20 : decode cX11_init 20 = .ok (.invokespecial 18, 3) := by decide +kernel
theorem dX11_init_23 : decode cX11_init 23 = .ok (.putfield 19, 3) := by decide +kernel
theorem dX11_init_26 : decode cX11_init 26 = .ok (.aload_n 0, 1) := by decide +kernel
theorem dX11_init_27 : decode cX11_init 27 = .ok (.new 23, 3) := by decide +kernel
theorem dX11_init_30 : decode cX11_init 30 = .ok (.dup, 1) := by decide +kernel
theorem dX11_init_31 : decode cX11_init 31 = .ok (.aload_n 0, 1) := by decide +kernel
theorem dX11_init_32 : decode cX11_init 32 = .ok (.getfield 10, 3) := by decide +kernel
theorem dX11_init_35 : decode cX11_init 35 = .ok (.aload_n 0, 1) := by decide +kernel
theorem dX11_init_36 : decode cX11_init 36 = .ok (.getfield 19, 3) := by decide +kernel
theorem dX11_init_39 : decode cX11_init 39 = .ok (.invokespecial 25, 3) := by decide +kernel
theorem dX11_init_42 : decode cX11_init 42 = .ok (.putfield 28, 3) := by decide +kernel
theorem dX11_init_45 : decode cX11_init 45 = .ok (.aload_n 0, 1) := by decide +kernel
theorem dX11_init_46 : decode cX11_init 46 = .ok (.new 32, 3) := by decide +kernel
theorem dX11_init_49 : decode cX11_init 49 = .ok (.dup, 1) := by decide +kernel
theorem dX11_init_50 : decode cX11_init 50 = .ok (.aload_n 0, 1) := by decide +kernel
theorem dX11_init_51 : decode cX11_init 51 = .ok (.getfield 10, 3) := by decide +kernel
theorem dX11_init_54 : decode cX11_init 54 = .ok (.aload_n 0, 1) := by decide +kernel
theorem dX11_init_55 : decode cX11_init 55 = .ok (.getfield 19, 3) := by decide +kernel
theorem dX11_init_58 : decode cX11_init 58 = .ok (.aload_n 0, 1) := by decide +kernel
theorem dX11_init_59 : decode cX11_init 59 = .ok (.getfield 28, 3) := by decide +kernel
theorem dX11_init_62 : decode cX11_init 62 = .ok (.invokespecial 34, 3) := by decide +kernel
theorem dX11_init_65 : decode cX11_init 65 = .ok (.putfield 37, 3) := by decide +kernel
theorem dX11_init_68 : decode cX11_init 68 = .ok (.aload_n 0, 1) := by decide +kernel
theorem dX11_init_69 : decode cX11_init 69 = .ok (.new 41, 3) := by decide +kernel
theorem dX11_init_72 : decode cX11_init 72 = .ok (.dup, 1) := by decide +kernel
theorem dX11_init_73 : decode cX11_init 73 = .ok (.aload_n 0, 1) := by decide +kernel
theorem dX11_init_74 : decode cX11_init 74 = .ok (.getfield 10, 3) := by decide +kernel
theorem dX11_init_77 : decode cX11_init 77 = .ok (.aload_n 0, 1) := by decide +kernel
theorem dX11_init_78 : decode cX11_init 78 = .ok (.getfield 19, 3) := by decide +kernel
theorem dX11_init_81 : decode cX11_init 81 = .ok (.aload_n 0, 1) := by decide +kernel
theorem dX11_init_82 : decode cX11_init 82 = .ok (.getfield 37, 3) := by decide +kernel
theorem dX11_init_85 : decode cX11_init 85 = .ok (.invokespecial 43, 3) := by decide +kernel
theorem dX11_init_88 : decode cX11_init 88 = .ok (.putfield 46, 3) := by decide +kernel
theorem dX11_init_91 : decode cX11_init 91 = .ok (.aload_n 0, 1) := by decide +kernel
theorem dX11_init_92 : decode cX11_init 92 = .ok (.bipush 6, 2) := by decide +kernel
theorem dX11_init_94 : decode cX11_init 94 = .ok (.anewarray 50, 3) := by decide +kernel
theorem dX11_init_97 : decode cX11_init 97 = .ok (.putfield 52, 3) := by decide +kernel
theorem dX11_init_100 : decode cX11_init 100 = .ok (.iconst 0, 1) := by decide +kernel
theorem dX11_init_101 : decode cX11_init 101 = .ok (.istore_n 1, 1) := by decide +kernel
theorem dX11_init_102 : decode cX11_init 102 = .ok (.iload_n 1, 1) := by decide +kernel
theorem dX11_init_103 : decode cX11_init 103 = .ok (.bipush 6, 2) := by decide +kernel
theorem dX11_init_105 : decode cX11_init 105 = .ok (.if_icmp .ge 22, 3) := by decide +kernel
theorem dX11_init_108 : decode cX11_init 108 = .ok (.aload_n 0, 1) := by decide +kernel
theorem dX11_init_109 : decode cX11_init 109 = .ok (.getfield 52, 3) := by decide +kernel
theorem dX11_init_112 : decode cX11_init 112 = .ok (.iload_n 1, 1) := by decide +kernel
theorem dX11_init_113 : decode cX11_init 113 = .ok (.new 50, 3) := by decide +kernel
theorem dX11_init_116 : decode cX11_init 116 = .ok (.dup, 1) := by decide +kernel
theorem dX11_init_117 : decode cX11_init 117 = .ok (.invokespecial 56, 3) := by decide +kernel
theorem dX11_init_120 : decode cX11_init 120 = .ok (.aastore, 1) := by decide +kernel
theorem dX11_init_121 : decode cX11_init 121 = .ok (.iinc 1 1, 3) := by decide +kernel
theorem dX11_init_124 : decode cX11_init 124 = .ok (.goto (-22), 3) := by decide +kernel
theorem dX11_init_127 : decode cX11_init 127 = .ok (.aload_n 0, 1) := by decide +kernel
theorem dX11_init_128 : decode cX11_init 128 = .ok (.iconst 0, 1) := by decide +kernel
theorem dX11_init_129 : decode cX11_init 129 = .ok (.putfield 57, 3) := by decide +kernel
theorem dX11_init_132 : decode cX11_init 132 = .ok (.return_, 1) := by decide +kernel
theorem dX12_init_0 : decode cX12_init 0 = .ok (.aload_n 0, 1) := by decide +kernel
theorem dX12_init_1 : decode cX12_init 1 = .ok (.invokespecial 1, 3) := by decide +kernel
theorem dX12_init_4 : decode cX12_init 4 = .ok (.aload_n 0, 1) := by decide +kernel
theorem dX12_init_5 : decode cX12_init 5 = .ok (.iconst 4, 1) := by decide +kernel
theorem dX12_init_6 : decode cX12_init 6 = .ok (.putfield 7, 3) := by decide +kernel
theorem dX12_init_9 : decode cX12_init 9 = .ok (.aload_n 0, 1) := by decide +kernel
theorem dX12_init_10 : decode cX12_init 10 = .ok (.bipush 24, 2) := by decide +kernel
theorem dX12_init_12 : decode cX12_init 12 = .ok (.newarray .int, 2) := by decide +kernel
theorem dX12_init_14 : decode cX12_init 14 = .ok (.putfield 13, 3) := by decide +kernel
theorem dX12_init_17 : decode cX12_init 17 = .ok (.aload_n 0, 1) := by decide +kernel
theorem dX12_init_18 : decode cX12_init 18 = .ok (.bipush 24, 2) := by decide +kernel
theorem dX12_init_20 : decode cX12_init 20 = .ok (.newarray .int, 2) := by decide +kernel
theorem dX12_init_22 : decode cX12_init 22 = .ok (.putfield 17, 3) := by decide +kernel
theorem dX12_init_25 : decode cX12_init 25 = .ok (.aload_n 0, 1) := by decide +kernel
theorem dX12_init_26 : decode cX12_init 26 = .ok (.bipush 24, 2) := by decide +kernel
theorem dX12_init_28 : decode cX12_init 28 = .ok (.newarray .int, 2) := by decide +kernel
theorem dX12_init_30 : decode cX12_init 30 = .ok (.putfield 20, 3) := by decide +kernel
theorem dX12_init_33 : decode cX12_init 33 = .ok (.aload_n 0, 1) := by decide +kernel
theorem dX12_init_34 : decode cX12_init 34 = .ok (.bipush 24, 2) := by decide +kernel
theorem dX12_init_36 : decode cX12_init 36 = .ok (.newarray .int, 2) := by decide +kernel
theorem dX12_init_38 : decode cX12_init 38 = .ok (.putfield 23, 3) := by decide +kernel
theorem dX12_init_41 : decode cX12_init 41 = .ok (.aload_n 0, 1) := by decide +kernel
theorem dX12_init_42 : decode cX12_init 42 = .ok (.bipush 24, 2) := by decide +kernel
theorem dX12_init_44 : decode cX12_init 44 = .ok (.newarray .int, 2) := by decide +kernel
theorem dX12_init_46 : decode cX12_init 46 = .ok (.putfield 26, 3) := by decide +kernel
theorem dX12_init_49 : decode cX12_init 49 = .ok (.aload_n 0, 1) := by decide +kernel
theorem dX12_init_50 : decode cX12_init 50 = .ok (.bipush 24, 2) := by decide +kernel
theorem dX12_init_52 : decode cX12_init 52 = .ok (.newarray .int, 2) := by decide +kernel
theorem dX12_init_54 : decode cX12_init 54 = .ok (.putfield 29, 3) := by decide +kernel
theorem dX12_init_57 : decode cX12_init 57 = .ok (.aload_n 0, 1) := by decide +kernel
theorem dX12_init_58 : decode cX12_init 58 = .ok (.bipush 24, 2) := by decide +kernel
theorem dX12_init_60 : decode cX12_init 60 = .ok (.newarray .int, 2) := by decide +kernel
theorem dX12_init_62 : decode cX12_init 62 = .ok (.putfield 32, 3) := by decide +kernel
theorem dX12_init_65 : decode cX12_init 65 = .ok (.aload_n 0, 1) := by decide +kernel
theorem dX12_init_66 : decode cX12_init 66 = .ok (.bipush 24, 2) := by decide +kernel
theorem dX12_init_68 : decode cX12_init 68 = .ok (.newarray .int, 2) := by decide +kernel
theorem dX12_init_70 : decode cX12_init 70 = .ok (.putfield 35, 3) := by decide +kernel
theorem dX12_init_73 : decode cX12_init 73 = .ok (.aload_n 0, 1) := by decide +kernel
theorem dX12_init_74 : decode cX12_init 74 = .ok (.bipush 12, 2) := by decide +kernel
theorem dX12_init_76 : decode cX12_init 76 = .ok (.newarray .int, 2) := by decide +kernel
theorem dX12_init_78 : decode cX12_init 78 = .ok (.putfield 38, 3) := by decide +kernel
theorem dX12_init_81 : decode cX12_init 81 = .ok (.aload_n 0, 1) := by decide +kernel
theorem dX12_init_82 : decode cX12_init 82 = .ok (.bipush 12, 2) := by decide +kernel
theorem dX12_init_84 : decode cX12_init 84 = .ok (.newarray .int, 2) := by decide +kernel
theorem dX12_init_86 : decode cX12_init 86 = .ok (.putfield 41, 3) := by decide +kernel
theorem dX12_init_89 : decode cX12_init 89 = .ok (.aload_n 0, 1) := by decide +kernel
theorem dX12_init_90 : decode cX12_init 90 = .ok (.bipush 12, 2) := by decide +kernel
theorem dX12_init_92 : decode cX12_init 92 = .ok (.newarray .int, 2) := by decide +kernel
theorem dX12_init_94 : decode cX12_init 94 = .ok (.putfield 44, 3) := by decide +kernel
theorem dX12_init_97 : decode cX12_init 97 = .ok (.aload_n 0, 1) := by decide +kernel
theorem dX12_init_98 : decode cX12_init 98 = .ok (.bipush 12, 2) := by decide +kernel
theorem dX12_init_100 : decode cX12_init 100 = .ok (.newarray .int, 2) := by decide +kernel
theorem dX12_init_102 : decode cX12_init 102 = .ok (.putfield 47, 3) := by decide +kernel
theorem dX12_init_105 : decode cX12_init 105 = .ok (.aload_n 0, 1) := by decide +kernel
theorem dX12_init_106 : decode cX12_init 106 = .ok (.bipush 6, 2) := by decide +kernel
theorem dX12_init_108 : decode cX12_init 108 = .ok (.newarray .int, 2) := by decide +kernel
theorem dX12_init_110 : decode cX12_init 110 = .ok (.putfield 50, 3) := by decide +kernel
theorem dX12_init_113 : decode cX12_init 113 = .ok (.aload_n 0, 1) := by decide +kernel
theorem dX12_init_114 : decode cX12_init 114 = .ok (.bipush 72, 2) := by decide +kernel
theorem dX12_init_116 : decode cX12_init 116 = .ok (.newarray .int, 2) := by decide +kernel
theorem dX12_init_118 : decode cX12_init 118 = .ok (.putfield 53, 3) := by decide +kernel
theorem dX12_init_121 : decode cX12_init 121 = .ok (.aload_n 0, 1) := by decide +kernel
theorem dX12_init_122 : decode cX12_init 122 = .ok (.bipush 72, 2) := by decide +kernel
theorem dX12_init_124 : decode cX12_init 124 = .ok (.newarray .int, 2) := by decide +kernel
theorem dX12_init_126 : decode cX12_init 126 = .ok (.putfield 56, 3) := by decide +kernel
theorem dX12_init_129 : decode cX12_init 129 = .ok (.aload_n 0, 1) := by decide +kernel
theorem dX12_init_130 : decode cX12_init 130 = .ok (.bipush 72, 2) := by decide +kernel
theorem dX12_init_132 : decode cX12_init 132 = .ok (.newarray .int, 2) := by decide +kernel
theorem dX12_init_134 : decode cX12_init 134 = .ok (.putfield 59, 3) := by decide +kernel
theorem dX12_init_137 : decode cX12_init 137 = .ok (.aload_n 0, 1) := by decide +kernel
theorem dX12_init_138 : decode cX12_init 138 = .ok (.bipush 72, 2) := by decide +kernel
theorem dX12_init_140 : decode cX12_init 140 = .ok (.newarray .int, 2) := by decide +kernel
theorem dX12_init_142 : decode cX12_init 142 = .ok (.putfield 62, 3) := by decide +kernel
theorem dX12_init_145 : decode cX12_init 145 = .ok (.aload_n 0, 1) := by decide +kernel
theorem dX12_init_146 : decode cX12_init 146 = .ok (.iconst 1, 1) := by decide +kernel
theorem dX12_init_147 : decode cX12_init 147 = .ok (.putfield 65, 3) := by decide +kernel
theorem dX12_init_150 : decode cX12_init 150 = .ok (.aload_n 0, 1) := by decide +kernel
theorem dX12_init_151 : decode cX12_init 151 = .ok (.bipush 24, 2) := by decide +kernel
theorem dX12_init_153 : decode cX12_init 153 = .ok (.newarray .int, 2) := by decide +kernel
theorem dX12_init_155 : decode cX12_init 155 = .ok (.putfield 68, 3) := by decide +kernel
theorem dX12_init_158 : decode cX12_init 158 = .ok (.aload_n 0, 1) := by decide +kernel
theorem dX12_init_159 : decode cX12_init 159 = .ok (.bipush 24, 2) := by decide +kernel
theorem dX12_init_161 : decode cX12_init 161 = .ok (.newarray .int, 2) := by decide +kernel
theorem dX12_init_163 : decode cX12_init 163 = .ok (.putfield 71, 3) := by decide +kernel
theorem dX12_init_166 : decode cX12_init 166 = .ok (.aload_n 0, 1) := by decide +kernel
theorem dX12_init_167 : decode cX12_init 167 = .ok (.bipush 24, 2) := by decide +kernel
theorem dX12_init_169 : decode cX12_init 169 = .ok (.newarray .int, 2) := by decide +kernel
theorem dX12_init_171 : decode cX12_init 171 = .ok (.putfield 74, 3) := by decide +kernel
theorem dX12_init_174 : decode cX12_init 174 = .ok (.aload_n 0, 1) := by decide +kernel
theorem dX12_init_175 : decode cX12_init 175 = .ok (.bipush 24, 2) := by decide +kernel
theorem dX12_init_177 : decode cX12_init 177 = .ok (.newarray .int, 2) := by decide +kernel
theorem dX12_init_179 : decode cX12_init 179 = .ok (.putfield 77, 3) := by decide +kernel
theorem dX12_init_182 : decode cX12_init 182 = .ok (.aload_n 0, 1) := by decide +kernel
theorem dX12_init_183 : decode cX12_init 183 = .ok (.bipush 24, 2) := by decide +kernel
theorem dX12_init_185 : decode cX12_init 185 = .ok (.newarray .int, 2) := by decide +kernel
theorem dX12_init_187 : decode cX12_init 187 = .ok (.putfield 80, 3) := by decide +kernel
theorem dX12_init_190 : decode cX12_init 190 = .ok (.aload_n 0, 1) := by decide +kernel
theorem dX12_init_191 : decode cX12_init 191 = .ok (.bipush 8, 2) := by decide +kernel
theorem dX12_init_193 : decode cX12_init 193 = .ok (.newarray .int, 2) := by decide +kernel
theorem dX12_init_195 : decode cX12_init 195 = .ok (.putfield 83, 3) := by decide +kernel
theorem dX12_init_198 : decode cX12_init 198 = .ok (.aload_n 0, 1) := by decide +kernel
theorem dX12_init_199 : decode cX12_init 199 = .ok (.bipush 17, 2) := by decide +kernel
theorem dX12_init_201 : decode cX12_init 201 = .ok (.newarray .int, 2) := by decide +kernel
theorem dX12_init_203 : decode cX12_init 203 = .ok (.putfield 86, 3) := by decide +kernel
theorem dX12_init_206 : decode cX12_init 206 = .ok (.aload_n 0, 1) := by decide +kernel
theorem dX12_init_207 : decode cX12_init 207 = .ok (.bipush 17, 2) := by decide +kernel
theorem dX12_init_209 : decode cX12_init 209 = .ok (.newarray .int, 2) := by decide +kernel
theorem dX12_init_211 : decode cX12_init 211 = .ok (.putfield 89, 3) := by decide +kernel
theorem dX12_init_214 : decode cX12_init 214 = .ok (.aload_n 0, 1) := by decide +kernel
theorem dX12_init_215 : decode cX12_init 215 = .ok (.bipush 17, 2) := by decide +kernel
theorem dX12_init_217 : decode cX12_init 217 = .ok (.newarray .int, 2) := by decide +kernel
theorem dX12_init_219 : decode cX12_init 219 = .ok (.putfield 92, 3) := by decide +kernel
theorem dX12_init_222 : decode cX12_init 222 = .ok (.aload_n 0, 1) := by decide +kernel
theorem dX12_init_223 : decode cX12_init 223 = .ok (.bipush 8, 2) := by decide +kernel
theorem dX12_init_225 : decode cX12_init 225 = .ok (.newarray .int, 2) := by decide +kernel
theorem dX12_init_227 : decode cX12_init 227 = .ok (.putfield 95, 3) := by decide +kernel
theorem dX12_init_230 : decode cX12_init 230 = .ok (.aload_n 0, 1) := by decide +kernel
theorem dX12_init_231 : decode cX12_init 231 = .ok (.sipush 192, 3) := by decide +kernel
theorem dX12_init_234 : decode cX12_init 234 = .ok (.newarray .int, 2) := by decide +kernel
theorem dX12_init_236 : decode cX12_init 236 = .ok (.putfield 98, 3) := by decide +kernel
theorem dX12_init_239 : decode cX12_init 239 = .ok (.aload_n 0, 1) := by decide +kernel
theorem dX12_init_240 : decode cX12_init 240 = .ok (.sipush 192, 3) := by decide +kernel
theorem dX12_init_243 : decode cX12_init 243 = .ok (.newarray .int, 2) := by decide +kernel
theorem dX12_init_245 : decode cX12_init 245 = .ok (.putfield 101, 3) := by decide +kernel
theorem dX12_init_248 : decode cX12_init 248 = .ok (.aload_n 0, 1) := by decide +kernel
theorem dX12_init_249 : decode cX12_init 249 = .ok (.sipush 192, 3) := by decide +kernel
theorem dX12_init_252 : decode cX12_init 252 = .ok (.newarray .int, 2) := by decide +kernel
theorem dX12_init_254 : decode cX12_init 254 = .ok (.putfield 104, 3) := by decide +kernel
theorem dX12_init_257 : decode cX12_init 257 = .ok (.aload_n 0, 1) := by decide +kernel
theorem dX12_init_258 : decode cX12_init 258 = .ok (.sipush 192, 3) := by decide +kernel
theorem dX12_init_261 : decode cX12_init 261 = .ok (.newarray .int, 2) := by decide +kernel
theorem dX12_init_263 : decode cX12_init 263 = .ok (.putfield 107, 3) := by decide +kernel
theorem dX12_init_266 : decode cX12_init 266 = .ok (.aload_n 0, 1) := by decide +kernel
theorem dX12_init_267 : decode cX12_init 267 = .ok (.sipush 192, 3) := by decide +kernel
theorem dX12_init_270 : decode cX12_init 270 = .ok (.newarray .int, 2) := by decide +kernel
theorem dX12_init_272 : decode cX12_init 272 = .ok (.putfield 110, 3) := by decide +kernel
theorem dX12_init_275 : decode cX12_init 275 = .ok (.aload_n 0, 1) := by decide +kernel
theorem dX12_init_276 : decode cX12_init 276 = .ok (.bipush 64, 2) := by decide +kernel
theorem dX12_init_278 : decode cX12_init 278 = .ok (.newarray .int, 2) := by decide +kernel
theorem dX12_init_280 : decode cX12_init 280 = .ok (.putfield 113, 3) := by decide +kernel
theorem dX12_init_283 : decode cX12_init 283 = .ok (.aload_n 0, 1) := by decide +kernel
theorem dX12_init_284 : decode cX12_init 284 = .ok (.bipush 8, 2) := by decide +kernel
theorem dX12_init_286 : decode cX12_init 286 = .ok (.newarray .int, 2) := by decide +kernel
theorem dX12_init_288 : decode cX12_init 288 = .ok (.putfield 116, 3) := by decide +kernel
theorem dX12_init_291 : decode cX12_init 291 = .ok (.aload_n 0, 1) := by decide +kernel
theorem dX12_init_292 : decode cX12_init 292 = .ok (.sipush 136, 3) := by decide +kernel
theorem dX12_init_295 : decode cX12_init 295 = .ok (.newarray .int, 2) := by decide +kernel
theorem dX12_init_297 : decode cX12_init 297 = .ok (.putfield 119, 3) := by decide +kernel
theorem dX12_init_300 : decode cX12_init 300 = .ok (.aload_n 0, 1) := by decide +kernel
theorem dX12_init_301 : decode cX12_init 301 = .ok (.sipush 136, 3) := by decide +kernel
theorem dX12_init_304 : decode cX12_init 304 = .ok (.newarray .int, 2) := by decide +kernel
theorem dX12_init_306 : decode cX12_init 306 = .ok (.putfield 122, 3) := by decide +kernel
theorem dX12_init_309 : decode cX12_init 309 = .ok (.aload_n 0, 1) := by decide +kernel
theorem dX12_init_310 : decode cX12_init 310 = .ok (.sipush 136, 3) := by decide +kernel
theorem dX12_init_313 : decode cX12_init 313 = .ok (.newarray .int, 2) := by decide +kernel
theorem dX12_init_315 : decode cX12_init 315 = .ok (.putfield 125, 3) := by decide +kernel
theorem dX12_init_318 : decode cX12_init 318 = .ok (.aload_n 0, 1) := by decide +kernel
theorem dX12_init_319 : decode cX12_init 319 = .ok (.bipush 8, 2) := by decide +kernel
theorem dX12_init_321 : decode cX12_init 321 = .ok (.newarray .int, 2) := by decide +kernel
theorem dX12_init_323 : decode cX12_init 323 = .ok (.putfield 128, 3) := by decide +kernel
theorem dX12_init_326 : decode cX12_init 326 = .ok (.aload_n 0, 1) := by decide +kernel
theorem dX12_init_327 : decode cX12_init 327 = .ok (.bipush 8, 2) := by decide +kernel
theorem dX12_init_329 : decode cX12_init 329 = .ok (.newarray .int, 2) := by decide +kernel
theorem dX12_init_331 : decode cX12_init 331 = .ok (.putfield 131, 3) := by decide +kernel
theorem dX12_init_334 : decode cX12_init 334 = .ok (.aload_n 0, 1) := by decide +kernel
theorem dX12_init_335 : decode cX12_init 335 = .ok (.bipush 8, 2) := by decide +kernel
theorem dX12_init_337 : decode cX12_init 337 = .ok (.newarray .int, 2) := by decide +kernel
theorem dX12_init_339 : decode cX12_init 339 = .ok (.putfield 134, 3) := by decide +kernel
theorem dX12_init_342 : decode cX12_init 342 = .ok (.aload_n 0, 1) := by decide +kernel
theorem dX12_init_343 : decode cX12_init 343 = .ok (.bipush 8, 2) := by decide +kernel
theorem dX12_init_345 : decode cX12_init 345 = .ok (.newarray .int, 2) := by decide +kernel
theorem dX12_init_347 : decode cX12_init 347 = .ok (.putfield 137, 3) := by decide +kernel
theorem dX12_init_350 : decode cX12_init 350 = .ok (.aload_n 0, 1) := by decide +kernel
theorem dX12_init_351 : decode cX12_init 351 = .ok (.bipush 8, 2) := by decide +kernel
theorem dX12_init_353 : decode cX12_init 353 = .ok (.newarray .int, 2) := by decide +kernel
theorem dX12_init_355 : decode cX12_init 355 = .ok (.putfield 140, 3) := by decide +kernel
theorem dX12_init_358 : decode cX12_init 358 = .ok (.aload_n 0, 1) := by decide +kernel
theorem dX12_init_359 : decode cX12_init 359 = .ok (.bipush 8, 2) := by decide +kernel
theorem dX12_init_361 : decode cX12_init 361 = .ok (.newarray .int, 2) := by decide +kernel
theorem dX12_init_363 : decode cX12_init 363 = .ok (.putfield 143, 3) := by decide +kernel
theorem dX12_init_366 : decode cX12_init 366 = .ok (.aload_n 0, 1) := by decide +kernel
theorem dX12_init_367 : decode cX12_init 367 = .ok (.iconst (-1), 1) := by decide +kernel
theorem dX12_init_368 : decode cX12_init 368 = .ok (.putfield 146, 3) := by decide +kernel
theorem dX12_init_371 : decode cX12_init 371 = .ok (.aload_n 0, 1) := by decide +kernel
theorem dX12_init_372 : decode cX12_init 372 = .ok (.iconst (-1), 1) := by decide +kernel
theorem dX12_init_373 : decode cX12_init 373 = .ok (.putfield 149, 3) := by decide +kernel
theorem dX12_init_376 : decode cX12_init 376 = .ok (.aload_n 0, 1) := by decide +kernel
theorem dX12_init_377 : decode cX12_init 377 = .ok (.bipush 6, 2) := by decide +kernel
theorem dX12_init_379 : decode cX12_init 379 = .ok (.newarray .int, 2) := by decide +kernel
theorem dX12_init_381 : decode cX12_init 381 = .ok (.putfield 152, 3) := by decide +kernel
theorem dX12_init_384 : decode cX12_init 384 = .ok (.aload_n 0, 1) := by decide +kernel
theorem dX12_init_385 : decode cX12_init 385 = .ok (.bipush 6, 2) := by decide +kernel
theorem dX12_init_387 : decode cX12_init 387 = .ok (.newarray .int, 2) := by decide +kernel
theorem dX12_init_389 : decode cX12_init 389 = .ok (.putfield 155, 3) := by decide +kernel
theorem dX12_init_392 : decode cX12_init 392 = .ok (.aload_n 0, 1) := by decide +kernel
theorem dX12_init_393 : decode cX12_init 393 = .ok (.sipush 384, 3) := by decide +kernel
theorem dX12_init_396 : decode cX12_init 396 = .ok (.newarray .long, 2) := by decide +kernel
theorem dX12_init_398 : decode cX12_init 398 = .ok (.putfield 158, 3) := by decide +kernel
theorem dX12_init_401 : decode cX12_init 401 = .ok (.aload_n 0, 1) := by decide +kernel
theorem dX12_init_402 : decode cX12_init 402 = .ok (.bipush 24, 2) := by decide +kernel
theorem dX12_init_404 : decode cX12_init 404 = .ok (.newarray .boolean, 2) := by decide +kernel
theorem dX12_init_406 : decode cX12_init 406 = .ok (.putfield 162, 3) := by decide +kernel
theorem dX12_init_409 : decode cX12_init 409 = .ok (.aload_n 0, 1) := by decide +kernel
theorem dX12_init_410 : decode cX12_init 410 = .ok (.iconst 2, 1) := by decide +kernel
theorem dX12_init_411 : decode cX12_init 411 = .ok (.newarray .int, 2) := by decide +kernel
theorem dX12_init_413 : decode cX12_init 413 = .ok (.putfield 166, 3) := by decide +kernel
theorem dX12_init_416 : decode cX12_init 416 = .ok (.aload_n 0, 1) := by decide +kernel
theorem dX12_init_417 : decode cX12_init 417 = .ok (.sipush 600, 3) := by decide +kernel
theorem dX12_init_420 : decode cX12_init 420 = .ok (.newarray .int, 2) := by decide +kernel
theorem dX12_init_422 : decode cX12_init 422 = .ok (.putfield 169, 3) := by decide +kernel
theorem dX12_init_425 : decode cX12_init 425 = .ok (.aload_n 0, 1) := by decide +kernel
theorem dX12_init_426 : decode cX12_init 426 = .ok (.iconst 2, 1) := by decide +kernel
theorem dX12_init_427 : decode cX12_init 427 = .ok (.newarray .int, 2) := by decide +kernel
theorem dX12_init_429 : decode cX12_init 429 = .ok (.putfield 172, 3) := by decide +kernel
theorem dX12_init_432 : decode cX12_init 432 = .ok (.aload_n 0, 1) := by decide +kernel
theorem dX12_init_433 : decode cX12_init 433 = .ok (.bipush 64, 2) := by decide +kernel
theorem dX12_init_435 : decode cX12_init 435 = .ok (.newarray .long, 2) := by decide +kernel
theorem dX12_init_437 : decode cX12_init 437 = .ok (.putfield 175, 3) := by decide +kernel
theorem dX12_init_440 : decode cX12_init 440 = .ok (.return_, 1) := by decide +kernel
