/-! ===== the words of the law's loop ===== -/
theorem me_X11_act : mMe yX11_act cX11_act 1 (some .int) 0 := ⟨tm3 (List.mem_of_getElem? (i := 98) (by decide +kernel)) (by decide +kernel), tm1 (List.mem_of_getElem? (i := 1) (by decide +kernel)) (by decide +kernel), by decide +kernel, by decide +kernel, by decide +kernel⟩
theorem mi_X11_act : Cond.instanceMethod yX11_act ∈ mTb := tm3 (List.mem_of_getElem? (i := 96) (by decide +kernel)) (by decide +kernel)
theorem ms_X11_act : Cond.selects yX11_act.cls yX11_act yX11_act ∈ mTb := tm3 (List.mem_of_getElem? (i := 97) (by decide +kernel)) (by decide +kernel)
theorem me_X11_back : mMe yX11_back cX11_back 3 (some .int) 1 := ⟨tm4 (List.mem_of_getElem? (i := 220) (by decide +kernel)) (by decide +kernel), tm1 (List.mem_of_getElem? (i := 1) (by decide +kernel)) (by decide +kernel), by decide +kernel, by decide +kernel, by decide +kernel⟩
theorem mi_X11_back : Cond.instanceMethod yX11_back ∈ mTb := tm4 (List.mem_of_getElem? (i := 218) (by decide +kernel)) (by decide +kernel)
theorem ms_X11_back : Cond.selects yX11_back.cls yX11_back yX11_back ∈ mTb := tm4 (List.mem_of_getElem? (i := 219) (by decide +kernel)) (by decide +kernel)
theorem me_X11_bare : mMe yX11_bare cX11_bare 2 (some .int) 1 := ⟨tm3 (List.mem_of_getElem? (i := 129) (by decide +kernel)) (by decide +kernel), tm1 (List.mem_of_getElem? (i := 1) (by decide +kernel)) (by decide +kernel), by decide +kernel, by decide +kernel, by decide +kernel⟩
theorem mi_X11_bare : Cond.instanceMethod yX11_bare ∈ mTb := tm3 (List.mem_of_getElem? (i := 127) (by decide +kernel)) (by decide +kernel)
theorem ms_X11_bare : Cond.selects yX11_bare.cls yX11_bare yX11_bare ∈ mTb := tm3 (List.mem_of_getElem? (i := 128) (by decide +kernel)) (by decide +kernel)
theorem me_X11_begin : mMe yX11_begin cX11_begin 2 (some .int) 1 := ⟨tm3 (List.mem_of_getElem? (i := 19) (by decide +kernel)) (by decide +kernel), tm1 (List.mem_of_getElem? (i := 1) (by decide +kernel)) (by decide +kernel), by decide +kernel, by decide +kernel, by decide +kernel⟩
theorem mi_X11_begin : Cond.instanceMethod yX11_begin ∈ mTb := tm3 (List.mem_of_getElem? (i := 17) (by decide +kernel)) (by decide +kernel)
theorem ms_X11_begin : Cond.selects yX11_begin.cls yX11_begin yX11_begin ∈ mTb := tm3 (List.mem_of_getElem? (i := 18) (by decide +kernel)) (by decide +kernel)
theorem me_X11_breaks : mMe yX11_breaks cX11_breaks 2 (some .int) 1 := ⟨tm4 (List.mem_of_getElem? (i := 139) (by decide +kernel)) (by decide +kernel), tm1 (List.mem_of_getElem? (i := 1) (by decide +kernel)) (by decide +kernel), by decide +kernel, by decide +kernel, by decide +kernel⟩
theorem mi_X11_breaks : Cond.instanceMethod yX11_breaks ∈ mTb := tm4 (List.mem_of_getElem? (i := 137) (by decide +kernel)) (by decide +kernel)
theorem ms_X11_breaks : Cond.selects yX11_breaks.cls yX11_breaks yX11_breaks ∈ mTb := tm4 (List.mem_of_getElem? (i := 138) (by decide +kernel)) (by decide +kernel)
theorem me_X11_clear : mMe yX11_clear cX11_clear 3 (some .int) 1 := ⟨tm5 (List.mem_of_getElem? (i := 69) (by decide +kernel)) (by decide +kernel), tm1 (List.mem_of_getElem? (i := 1) (by decide +kernel)) (by decide +kernel), by decide +kernel, by decide +kernel, by decide +kernel⟩
theorem mi_X11_clear : Cond.instanceMethod yX11_clear ∈ mTb := tm5 (List.mem_of_getElem? (i := 67) (by decide +kernel)) (by decide +kernel)
theorem ms_X11_clear : Cond.selects yX11_clear.cls yX11_clear yX11_clear ∈ mTb := tm5 (List.mem_of_getElem? (i := 68) (by decide +kernel)) (by decide +kernel)
theorem me_X11_code : mMe yX11_code cX11_code 2 (some .int) 1 := ⟨tm3 (List.mem_of_getElem? (i := 153) (by decide +kernel)) (by decide +kernel), tm1 (List.mem_of_getElem? (i := 1) (by decide +kernel)) (by decide +kernel), by decide +kernel, by decide +kernel, by decide +kernel⟩
theorem mi_X11_code : Cond.instanceMethod yX11_code ∈ mTb := tm3 (List.mem_of_getElem? (i := 151) (by decide +kernel)) (by decide +kernel)
theorem ms_X11_code : Cond.selects yX11_code.cls yX11_code yX11_code ∈ mTb := tm3 (List.mem_of_getElem? (i := 152) (by decide +kernel)) (by decide +kernel)
theorem me_X11_copy : mMe yX11_copy cX11_copy 8 (some .int) 5 := ⟨tm5 (List.mem_of_getElem? (i := 85) (by decide +kernel)) (by decide +kernel), tm1 (List.mem_of_getElem? (i := 1) (by decide +kernel)) (by decide +kernel), by decide +kernel, by decide +kernel, by decide +kernel⟩
theorem mi_X11_copy : Cond.instanceMethod yX11_copy ∈ mTb := tm5 (List.mem_of_getElem? (i := 83) (by decide +kernel)) (by decide +kernel)
theorem ms_X11_copy : Cond.selects yX11_copy.cls yX11_copy yX11_copy ∈ mTb := tm5 (List.mem_of_getElem? (i := 84) (by decide +kernel)) (by decide +kernel)
theorem me_X11_count : mMe yX11_count cX11_count 2 (some .int) 1 := ⟨tm5 (List.mem_of_getElem? (i := 94) (by decide +kernel)) (by decide +kernel), tm1 (List.mem_of_getElem? (i := 1) (by decide +kernel)) (by decide +kernel), by decide +kernel, by decide +kernel, by decide +kernel⟩
theorem mi_X11_count : Cond.instanceMethod yX11_count ∈ mTb := tm5 (List.mem_of_getElem? (i := 92) (by decide +kernel)) (by decide +kernel)
theorem ms_X11_count : Cond.selects yX11_count.cls yX11_count yX11_count ∈ mTb := tm5 (List.mem_of_getElem? (i := 93) (by decide +kernel)) (by decide +kernel)
theorem me_X11_done : mMe yX11_done cX11_done 4 (some .int) 2 := ⟨tm3 (List.mem_of_getElem? (i := 82) (by decide +kernel)) (by decide +kernel), tm1 (List.mem_of_getElem? (i := 1) (by decide +kernel)) (by decide +kernel), by decide +kernel, by decide +kernel, by decide +kernel⟩
theorem mi_X11_done : Cond.instanceMethod yX11_done ∈ mTb := tm3 (List.mem_of_getElem? (i := 80) (by decide +kernel)) (by decide +kernel)
theorem ms_X11_done : Cond.selects yX11_done.cls yX11_done yX11_done ∈ mTb := tm3 (List.mem_of_getElem? (i := 81) (by decide +kernel)) (by decide +kernel)
theorem me_X11_event : mMe yX11_event cX11_event 5 (some .int) 3 := ⟨tm3 (List.mem_of_getElem? (i := 235) (by decide +kernel)) (by decide +kernel), tm1 (List.mem_of_getElem? (i := 1) (by decide +kernel)) (by decide +kernel), by decide +kernel, by decide +kernel, by decide +kernel⟩
theorem mi_X11_event : Cond.instanceMethod yX11_event ∈ mTb := tm3 (List.mem_of_getElem? (i := 233) (by decide +kernel)) (by decide +kernel)
theorem ms_X11_event : Cond.selects yX11_event.cls yX11_event yX11_event ∈ mTb := tm3 (List.mem_of_getElem? (i := 234) (by decide +kernel)) (by decide +kernel)
theorem me_X11_field : mMe yX11_field cX11_field 8 (some .int) 5 := ⟨tm3 (List.mem_of_getElem? (i := 51) (by decide +kernel)) (by decide +kernel), tm1 (List.mem_of_getElem? (i := 1) (by decide +kernel)) (by decide +kernel), by decide +kernel, by decide +kernel, by decide +kernel⟩
theorem mi_X11_field : Cond.instanceMethod yX11_field ∈ mTb := tm3 (List.mem_of_getElem? (i := 49) (by decide +kernel)) (by decide +kernel)
theorem ms_X11_field : Cond.selects yX11_field.cls yX11_field yX11_field ∈ mTb := tm3 (List.mem_of_getElem? (i := 50) (by decide +kernel)) (by decide +kernel)
theorem me_X11_handler : mMe yX11_handler cX11_handler 3 (some .int) 2 := ⟨tm3 (List.mem_of_getElem? (i := 137) (by decide +kernel)) (by decide +kernel), tm1 (List.mem_of_getElem? (i := 1) (by decide +kernel)) (by decide +kernel), by decide +kernel, by decide +kernel, by decide +kernel⟩
theorem mi_X11_handler : Cond.instanceMethod yX11_handler ∈ mTb := tm3 (List.mem_of_getElem? (i := 135) (by decide +kernel)) (by decide +kernel)
theorem ms_X11_handler : Cond.selects yX11_handler.cls yX11_handler yX11_handler ∈ mTb := tm3 (List.mem_of_getElem? (i := 136) (by decide +kernel)) (by decide +kernel)
theorem me_X11_image : mMe yX11_image cX11_image 2 (some .int) 1 := ⟨tm4 (List.mem_of_getElem? (i := 211) (by decide +kernel)) (by decide +kernel), tm1 (List.mem_of_getElem? (i := 1) (by decide +kernel)) (by decide +kernel), by decide +kernel, by decide +kernel, by decide +kernel⟩
theorem mi_X11_image : Cond.instanceMethod yX11_image ∈ mTb := tm4 (List.mem_of_getElem? (i := 209) (by decide +kernel)) (by decide +kernel)
theorem ms_X11_image : Cond.selects yX11_image.cls yX11_image yX11_image ∈ mTb := tm4 (List.mem_of_getElem? (i := 210) (by decide +kernel)) (by decide +kernel)
theorem me_X11_law : mMe yX11_law cX11_law 5 (some .int) 4 := ⟨tm3 (List.mem_of_getElem? (i := 90) (by decide +kernel)) (by decide +kernel), tm1 (List.mem_of_getElem? (i := 1) (by decide +kernel)) (by decide +kernel), by decide +kernel, by decide +kernel, by decide +kernel⟩
theorem mi_X11_law : Cond.instanceMethod yX11_law ∈ mTb := tm3 (List.mem_of_getElem? (i := 88) (by decide +kernel)) (by decide +kernel)
theorem ms_X11_law : Cond.selects yX11_law.cls yX11_law yX11_law ∈ mTb := tm3 (List.mem_of_getElem? (i := 89) (by decide +kernel)) (by decide +kernel)
theorem me_X11_locks : mMe yX11_locks cX11_locks 2 (some .int) 1 := ⟨tm3 (List.mem_of_getElem? (i := 145) (by decide +kernel)) (by decide +kernel), tm1 (List.mem_of_getElem? (i := 1) (by decide +kernel)) (by decide +kernel), by decide +kernel, by decide +kernel, by decide +kernel⟩
theorem mi_X11_locks : Cond.instanceMethod yX11_locks ∈ mTb := tm3 (List.mem_of_getElem? (i := 143) (by decide +kernel)) (by decide +kernel)
theorem ms_X11_locks : Cond.selects yX11_locks.cls yX11_locks yX11_locks ∈ mTb := tm3 (List.mem_of_getElem? (i := 144) (by decide +kernel)) (by decide +kernel)
theorem me_X11_op : mMe yX11_op cX11_op 5 (some .int) 3 := ⟨tm3 (List.mem_of_getElem? (i := 215) (by decide +kernel)) (by decide +kernel), tm1 (List.mem_of_getElem? (i := 1) (by decide +kernel)) (by decide +kernel), by decide +kernel, by decide +kernel, by decide +kernel⟩
theorem mi_X11_op : Cond.instanceMethod yX11_op ∈ mTb := tm3 (List.mem_of_getElem? (i := 213) (by decide +kernel)) (by decide +kernel)
theorem ms_X11_op : Cond.selects yX11_op.cls yX11_op yX11_op ∈ mTb := tm3 (List.mem_of_getElem? (i := 214) (by decide +kernel)) (by decide +kernel)
theorem me_X11_peek : mMe yX11_peek cX11_peek 4 (some .int) 2 := ⟨tm4 (List.mem_of_getElem? (i := 127) (by decide +kernel)) (by decide +kernel), tm1 (List.mem_of_getElem? (i := 1) (by decide +kernel)) (by decide +kernel), by decide +kernel, by decide +kernel, by decide +kernel⟩
theorem mi_X11_peek : Cond.instanceMethod yX11_peek ∈ mTb := tm4 (List.mem_of_getElem? (i := 125) (by decide +kernel)) (by decide +kernel)
theorem ms_X11_peek : Cond.selects yX11_peek.cls yX11_peek yX11_peek ∈ mTb := tm4 (List.mem_of_getElem? (i := 126) (by decide +kernel)) (by decide +kernel)
theorem me_X11_period : mMe yX11_period cX11_period 4 (some .int) 2 := ⟨tm3 (List.mem_of_getElem? (i := 70) (by decide +kernel)) (by decide +kernel), tm1 (List.mem_of_getElem? (i := 1) (by decide +kernel)) (by decide +kernel), by decide +kernel, by decide +kernel, by decide +kernel⟩
theorem mi_X11_period : Cond.instanceMethod yX11_period ∈ mTb := tm3 (List.mem_of_getElem? (i := 68) (by decide +kernel)) (by decide +kernel)
theorem ms_X11_period : Cond.selects yX11_period.cls yX11_period yX11_period ∈ mTb := tm3 (List.mem_of_getElem? (i := 69) (by decide +kernel)) (by decide +kernel)
theorem me_X11_play : mMe yX11_play cX11_play 7 (some .int) 3 := ⟨tm5 (List.mem_of_getElem? (i := 61) (by decide +kernel)) (by decide +kernel), tm1 (List.mem_of_getElem? (i := 1) (by decide +kernel)) (by decide +kernel), by decide +kernel, by decide +kernel, by decide +kernel⟩
theorem mi_X11_play : Cond.instanceMethod yX11_play ∈ mTb := tm5 (List.mem_of_getElem? (i := 59) (by decide +kernel)) (by decide +kernel)
theorem ms_X11_play : Cond.selects yX11_play.cls yX11_play yX11_play ∈ mTb := tm5 (List.mem_of_getElem? (i := 60) (by decide +kernel)) (by decide +kernel)
theorem me_X11_power : mMe yX11_power cX11_power 1 (some .int) 0 := ⟨tm3 (List.mem_of_getElem? (i := 231) (by decide +kernel)) (by decide +kernel), tm1 (List.mem_of_getElem? (i := 1) (by decide +kernel)) (by decide +kernel), by decide +kernel, by decide +kernel, by decide +kernel⟩
theorem mi_X11_power : Cond.instanceMethod yX11_power ∈ mTb := tm3 (List.mem_of_getElem? (i := 229) (by decide +kernel)) (by decide +kernel)
theorem ms_X11_power : Cond.selects yX11_power.cls yX11_power yX11_power ∈ mTb := tm3 (List.mem_of_getElem? (i := 230) (by decide +kernel)) (by decide +kernel)
theorem me_X11_put : mMe yX11_put cX11_put 6 (some .int) 3 := ⟨tm5 (List.mem_of_getElem? (i := 73) (by decide +kernel)) (by decide +kernel), tm1 (List.mem_of_getElem? (i := 1) (by decide +kernel)) (by decide +kernel), by decide +kernel, by decide +kernel, by decide +kernel⟩
theorem mi_X11_put : Cond.instanceMethod yX11_put ∈ mTb := tm5 (List.mem_of_getElem? (i := 71) (by decide +kernel)) (by decide +kernel)
theorem ms_X11_put : Cond.selects yX11_put.cls yX11_put yX11_put ∈ mTb := tm5 (List.mem_of_getElem? (i := 72) (by decide +kernel)) (by decide +kernel)
theorem me_X11_read : mMe yX11_read cX11_read 2 (some .int) 1 := ⟨tm4 (List.mem_of_getElem? (i := 112) (by decide +kernel)) (by decide +kernel), tm1 (List.mem_of_getElem? (i := 1) (by decide +kernel)) (by decide +kernel), by decide +kernel, by decide +kernel, by decide +kernel⟩
theorem mi_X11_read : Cond.instanceMethod yX11_read ∈ mTb := tm4 (List.mem_of_getElem? (i := 110) (by decide +kernel)) (by decide +kernel)
theorem ms_X11_read : Cond.selects yX11_read.cls yX11_read yX11_read ∈ mTb := tm4 (List.mem_of_getElem? (i := 111) (by decide +kernel)) (by decide +kernel)
theorem me_X11_result : mMe yX11_result cX11_result 1 (some .int) 0 := ⟨tm4 (List.mem_of_getElem? (i := 135) (by decide +kernel)) (by decide +kernel), tm1 (List.mem_of_getElem? (i := 1) (by decide +kernel)) (by decide +kernel), by decide +kernel, by decide +kernel, by decide +kernel⟩
theorem mi_X11_result : Cond.instanceMethod yX11_result ∈ mTb := tm4 (List.mem_of_getElem? (i := 133) (by decide +kernel)) (by decide +kernel)
theorem ms_X11_result : Cond.selects yX11_result.cls yX11_result yX11_result ∈ mTb := tm4 (List.mem_of_getElem? (i := 134) (by decide +kernel)) (by decide +kernel)
theorem me_X11_run : mMe yX11_run cX11_run 4 (some .int) 1 := ⟨tm4 (List.mem_of_getElem? (i := 3) (by decide +kernel)) (by decide +kernel), tm1 (List.mem_of_getElem? (i := 1) (by decide +kernel)) (by decide +kernel), by decide +kernel, by decide +kernel, by decide +kernel⟩
theorem mi_X11_run : Cond.instanceMethod yX11_run ∈ mTb := tm4 (List.mem_of_getElem? (i := 1) (by decide +kernel)) (by decide +kernel)
theorem ms_X11_run : Cond.selects yX11_run.cls yX11_run yX11_run ∈ mTb := tm4 (List.mem_of_getElem? (i := 2) (by decide +kernel)) (by decide +kernel)
theorem me_X11_same : mMe yX11_same cX11_same 3 (some .int) 2 := ⟨tm3 (List.mem_of_getElem? (i := 223) (by decide +kernel)) (by decide +kernel), tm1 (List.mem_of_getElem? (i := 1) (by decide +kernel)) (by decide +kernel), by decide +kernel, by decide +kernel, by decide +kernel⟩
theorem mi_X11_same : Cond.instanceMethod yX11_same ∈ mTb := tm3 (List.mem_of_getElem? (i := 221) (by decide +kernel)) (by decide +kernel)
theorem ms_X11_same : Cond.selects yX11_same.cls yX11_same yX11_same ∈ mTb := tm3 (List.mem_of_getElem? (i := 222) (by decide +kernel)) (by decide +kernel)
theorem me_X11_shadow : mMe yX11_shadow cX11_shadow 2 (some .int) 1 := ⟨tm4 (List.mem_of_getElem? (i := 131) (by decide +kernel)) (by decide +kernel), tm1 (List.mem_of_getElem? (i := 1) (by decide +kernel)) (by decide +kernel), by decide +kernel, by decide +kernel, by decide +kernel⟩
theorem mi_X11_shadow : Cond.instanceMethod yX11_shadow ∈ mTb := tm4 (List.mem_of_getElem? (i := 129) (by decide +kernel)) (by decide +kernel)
theorem ms_X11_shadow : Cond.selects yX11_shadow.cls yX11_shadow yX11_shadow ∈ mTb := tm4 (List.mem_of_getElem? (i := 130) (by decide +kernel)) (by decide +kernel)
theorem me_X11_step : mMe yX11_step cX11_step 6 (some .int) 5 := ⟨tm3 (List.mem_of_getElem? (i := 106) (by decide +kernel)) (by decide +kernel), tm1 (List.mem_of_getElem? (i := 1) (by decide +kernel)) (by decide +kernel), by decide +kernel, by decide +kernel, by decide +kernel⟩
theorem mi_X11_step : Cond.instanceMethod yX11_step ∈ mTb := tm3 (List.mem_of_getElem? (i := 104) (by decide +kernel)) (by decide +kernel)
theorem ms_X11_step : Cond.selects yX11_step.cls yX11_step yX11_step ∈ mTb := tm3 (List.mem_of_getElem? (i := 105) (by decide +kernel)) (by decide +kernel)
theorem me_X11_tape : mMe yX11_tape cX11_tape 4 (some .int) 3 := ⟨tm4 (List.mem_of_getElem? (i := 195) (by decide +kernel)) (by decide +kernel), tm1 (List.mem_of_getElem? (i := 1) (by decide +kernel)) (by decide +kernel), by decide +kernel, by decide +kernel, by decide +kernel⟩
theorem mi_X11_tape : Cond.instanceMethod yX11_tape ∈ mTb := tm4 (List.mem_of_getElem? (i := 193) (by decide +kernel)) (by decide +kernel)
theorem ms_X11_tape : Cond.selects yX11_tape.cls yX11_tape yX11_tape ∈ mTb := tm4 (List.mem_of_getElem? (i := 194) (by decide +kernel)) (by decide +kernel)
theorem me_X11_wait : mMe yX11_wait cX11_wait 3 (some .int) 1 := ⟨tm4 (List.mem_of_getElem? (i := 122) (by decide +kernel)) (by decide +kernel), tm1 (List.mem_of_getElem? (i := 1) (by decide +kernel)) (by decide +kernel), by decide +kernel, by decide +kernel, by decide +kernel⟩
theorem mi_X11_wait : Cond.instanceMethod yX11_wait ∈ mTb := tm4 (List.mem_of_getElem? (i := 120) (by decide +kernel)) (by decide +kernel)
theorem ms_X11_wait : Cond.selects yX11_wait.cls yX11_wait yX11_wait ∈ mTb := tm4 (List.mem_of_getElem? (i := 121) (by decide +kernel)) (by decide +kernel)
theorem me_X11_walk : mMe yX11_walk cX11_walk 5 (some .int) 2 := ⟨tm4 (List.mem_of_getElem? (i := 143) (by decide +kernel)) (by decide +kernel), tm1 (List.mem_of_getElem? (i := 1) (by decide +kernel)) (by decide +kernel), by decide +kernel, by decide +kernel, by decide +kernel⟩
theorem mi_X11_walk : Cond.instanceMethod yX11_walk ∈ mTb := tm4 (List.mem_of_getElem? (i := 141) (by decide +kernel)) (by decide +kernel)
theorem ms_X11_walk : Cond.selects yX11_walk.cls yX11_walk yX11_walk ∈ mTb := tm4 (List.mem_of_getElem? (i := 142) (by decide +kernel)) (by decide +kernel)
theorem me_X11_why : mMe yX11_why cX11_why 2 (some .int) 1 := ⟨tm4 (List.mem_of_getElem? (i := 191) (by decide +kernel)) (by decide +kernel), tm1 (List.mem_of_getElem? (i := 1) (by decide +kernel)) (by decide +kernel), by decide +kernel, by decide +kernel, by decide +kernel⟩
theorem mi_X11_why : Cond.instanceMethod yX11_why ∈ mTb := tm4 (List.mem_of_getElem? (i := 189) (by decide +kernel)) (by decide +kernel)
theorem ms_X11_why : Cond.selects yX11_why.cls yX11_why yX11_why ∈ mTb := tm4 (List.mem_of_getElem? (i := 190) (by decide +kernel)) (by decide +kernel)
theorem me_X11_write : mMe yX11_write cX11_write 3 (some .int) 2 := ⟨tm4 (List.mem_of_getElem? (i := 117) (by decide +kernel)) (by decide +kernel), tm1 (List.mem_of_getElem? (i := 1) (by decide +kernel)) (by decide +kernel), by decide +kernel, by decide +kernel, by decide +kernel⟩
theorem mi_X11_write : Cond.instanceMethod yX11_write ∈ mTb := tm4 (List.mem_of_getElem? (i := 115) (by decide +kernel)) (by decide +kernel)
theorem ms_X11_write : Cond.selects yX11_write.cls yX11_write yX11_write ∈ mTb := tm4 (List.mem_of_getElem? (i := 116) (by decide +kernel)) (by decide +kernel)
theorem me_X12_act : mMe yX12_act cX12_act 1 (some .int) 0 := ⟨tm6 (List.mem_of_getElem? (i := 147) (by decide +kernel)) (by decide +kernel), tm1 (List.mem_of_getElem? (i := 14) (by decide +kernel)) (by decide +kernel), by decide +kernel, by decide +kernel, by decide +kernel⟩
theorem mi_X12_act : Cond.instanceMethod yX12_act ∈ mTb := tm6 (List.mem_of_getElem? (i := 145) (by decide +kernel)) (by decide +kernel)
theorem ms_X12_act : Cond.selects yX12_act.cls yX12_act yX12_act ∈ mTb := tm6 (List.mem_of_getElem? (i := 146) (by decide +kernel)) (by decide +kernel)
theorem me_X12_at : mMe yX12_at cX12_at 3 (some .long) 2 := ⟨tm7 (List.mem_of_getElem? (i := 146) (by decide +kernel)) (by decide +kernel), tm1 (List.mem_of_getElem? (i := 14) (by decide +kernel)) (by decide +kernel), by decide +kernel, by decide +kernel, by decide +kernel⟩
theorem mi_X12_at : Cond.instanceMethod yX12_at ∈ mTb := tm7 (List.mem_of_getElem? (i := 144) (by decide +kernel)) (by decide +kernel)
theorem ms_X12_at : Cond.selects yX12_at.cls yX12_at yX12_at ∈ mTb := tm7 (List.mem_of_getElem? (i := 145) (by decide +kernel)) (by decide +kernel)
theorem me_X12_back : mMe yX12_back cX12_back 3 (some .int) 1 := ⟨tm7 (List.mem_of_getElem? (i := 119) (by decide +kernel)) (by decide +kernel), tm1 (List.mem_of_getElem? (i := 14) (by decide +kernel)) (by decide +kernel), by decide +kernel, by decide +kernel, by decide +kernel⟩
theorem mi_X12_back : Cond.instanceMethod yX12_back ∈ mTb := tm7 (List.mem_of_getElem? (i := 117) (by decide +kernel)) (by decide +kernel)
theorem ms_X12_back : Cond.selects yX12_back.cls yX12_back yX12_back ∈ mTb := tm7 (List.mem_of_getElem? (i := 118) (by decide +kernel)) (by decide +kernel)
theorem me_X12_bare : mMe yX12_bare cX12_bare 3 (some .int) 1 := ⟨tm6 (List.mem_of_getElem? (i := 159) (by decide +kernel)) (by decide +kernel), tm1 (List.mem_of_getElem? (i := 14) (by decide +kernel)) (by decide +kernel), by decide +kernel, by decide +kernel, by decide +kernel⟩
theorem mi_X12_bare : Cond.instanceMethod yX12_bare ∈ mTb := tm6 (List.mem_of_getElem? (i := 157) (by decide +kernel)) (by decide +kernel)
theorem ms_X12_bare : Cond.selects yX12_bare.cls yX12_bare yX12_bare ∈ mTb := tm6 (List.mem_of_getElem? (i := 158) (by decide +kernel)) (by decide +kernel)
theorem me_X12_begin : mMe yX12_begin cX12_begin 2 (some .int) 1 := ⟨tm6 (List.mem_of_getElem? (i := 100) (by decide +kernel)) (by decide +kernel), tm1 (List.mem_of_getElem? (i := 14) (by decide +kernel)) (by decide +kernel), by decide +kernel, by decide +kernel, by decide +kernel⟩
theorem mi_X12_begin : Cond.instanceMethod yX12_begin ∈ mTb := tm6 (List.mem_of_getElem? (i := 98) (by decide +kernel)) (by decide +kernel)
theorem ms_X12_begin : Cond.selects yX12_begin.cls yX12_begin yX12_begin ∈ mTb := tm6 (List.mem_of_getElem? (i := 99) (by decide +kernel)) (by decide +kernel)
theorem me_X12_breaks : mMe yX12_breaks cX12_breaks 2 (some .int) 1 := ⟨tm7 (List.mem_of_getElem? (i := 72) (by decide +kernel)) (by decide +kernel), tm1 (List.mem_of_getElem? (i := 14) (by decide +kernel)) (by decide +kernel), by decide +kernel, by decide +kernel, by decide +kernel⟩
theorem mi_X12_breaks : Cond.instanceMethod yX12_breaks ∈ mTb := tm7 (List.mem_of_getElem? (i := 70) (by decide +kernel)) (by decide +kernel)
theorem ms_X12_breaks : Cond.selects yX12_breaks.cls yX12_breaks yX12_breaks ∈ mTb := tm7 (List.mem_of_getElem? (i := 71) (by decide +kernel)) (by decide +kernel)
theorem me_X12_clear : mMe yX12_clear cX12_clear 3 (some .int) 1 := ⟨tm7 (List.mem_of_getElem? (i := 135) (by decide +kernel)) (by decide +kernel), tm1 (List.mem_of_getElem? (i := 14) (by decide +kernel)) (by decide +kernel), by decide +kernel, by decide +kernel, by decide +kernel⟩
theorem mi_X12_clear : Cond.instanceMethod yX12_clear ∈ mTb := tm7 (List.mem_of_getElem? (i := 133) (by decide +kernel)) (by decide +kernel)
theorem ms_X12_clear : Cond.selects yX12_clear.cls yX12_clear yX12_clear ∈ mTb := tm7 (List.mem_of_getElem? (i := 134) (by decide +kernel)) (by decide +kernel)
theorem me_X12_code : mMe yX12_code cX12_code 2 (some .int) 1 := ⟨tm6 (List.mem_of_getElem? (i := 171) (by decide +kernel)) (by decide +kernel), tm1 (List.mem_of_getElem? (i := 14) (by decide +kernel)) (by decide +kernel), by decide +kernel, by decide +kernel, by decide +kernel⟩
theorem mi_X12_code : Cond.instanceMethod yX12_code ∈ mTb := tm6 (List.mem_of_getElem? (i := 169) (by decide +kernel)) (by decide +kernel)
theorem ms_X12_code : Cond.selects yX12_code.cls yX12_code yX12_code ∈ mTb := tm6 (List.mem_of_getElem? (i := 170) (by decide +kernel)) (by decide +kernel)
theorem me_X12_copy : mMe yX12_copy cX12_copy 7 (some .int) 5 := ⟨tm7 (List.mem_of_getElem? (i := 150) (by decide +kernel)) (by decide +kernel), tm1 (List.mem_of_getElem? (i := 14) (by decide +kernel)) (by decide +kernel), by decide +kernel, by decide +kernel, by decide +kernel⟩
theorem mi_X12_copy : Cond.instanceMethod yX12_copy ∈ mTb := tm7 (List.mem_of_getElem? (i := 148) (by decide +kernel)) (by decide +kernel)
theorem ms_X12_copy : Cond.selects yX12_copy.cls yX12_copy yX12_copy ∈ mTb := tm7 (List.mem_of_getElem? (i := 149) (by decide +kernel)) (by decide +kernel)
theorem me_X12_count : mMe yX12_count cX12_count 2 (some .int) 1 := ⟨tm7 (List.mem_of_getElem? (i := 154) (by decide +kernel)) (by decide +kernel), tm1 (List.mem_of_getElem? (i := 14) (by decide +kernel)) (by decide +kernel), by decide +kernel, by decide +kernel, by decide +kernel⟩
theorem mi_X12_count : Cond.instanceMethod yX12_count ∈ mTb := tm7 (List.mem_of_getElem? (i := 152) (by decide +kernel)) (by decide +kernel)
theorem ms_X12_count : Cond.selects yX12_count.cls yX12_count yX12_count ∈ mTb := tm7 (List.mem_of_getElem? (i := 153) (by decide +kernel)) (by decide +kernel)
theorem me_X12_done : mMe yX12_done cX12_done 4 (some .int) 2 := ⟨tm6 (List.mem_of_getElem? (i := 139) (by decide +kernel)) (by decide +kernel), tm1 (List.mem_of_getElem? (i := 14) (by decide +kernel)) (by decide +kernel), by decide +kernel, by decide +kernel, by decide +kernel⟩
theorem mi_X12_done : Cond.instanceMethod yX12_done ∈ mTb := tm6 (List.mem_of_getElem? (i := 137) (by decide +kernel)) (by decide +kernel)
theorem ms_X12_done : Cond.selects yX12_done.cls yX12_done yX12_done ∈ mTb := tm6 (List.mem_of_getElem? (i := 138) (by decide +kernel)) (by decide +kernel)
theorem me_X12_event : mMe yX12_event cX12_event 4 (some .int) 3 := ⟨tm6 (List.mem_of_getElem? (i := 215) (by decide +kernel)) (by decide +kernel), tm1 (List.mem_of_getElem? (i := 14) (by decide +kernel)) (by decide +kernel), by decide +kernel, by decide +kernel, by decide +kernel⟩
theorem mi_X12_event : Cond.instanceMethod yX12_event ∈ mTb := tm6 (List.mem_of_getElem? (i := 213) (by decide +kernel)) (by decide +kernel)
theorem ms_X12_event : Cond.selects yX12_event.cls yX12_event yX12_event ∈ mTb := tm6 (List.mem_of_getElem? (i := 214) (by decide +kernel)) (by decide +kernel)
theorem me_X12_field : mMe yX12_field cX12_field 8 (some .int) 5 := ⟨tm6 (List.mem_of_getElem? (i := 115) (by decide +kernel)) (by decide +kernel), tm1 (List.mem_of_getElem? (i := 14) (by decide +kernel)) (by decide +kernel), by decide +kernel, by decide +kernel, by decide +kernel⟩
theorem mi_X12_field : Cond.instanceMethod yX12_field ∈ mTb := tm6 (List.mem_of_getElem? (i := 113) (by decide +kernel)) (by decide +kernel)
theorem ms_X12_field : Cond.selects yX12_field.cls yX12_field yX12_field ∈ mTb := tm6 (List.mem_of_getElem? (i := 114) (by decide +kernel)) (by decide +kernel)
theorem me_X12_handler : mMe yX12_handler cX12_handler 4 (some .int) 2 := ⟨tm6 (List.mem_of_getElem? (i := 163) (by decide +kernel)) (by decide +kernel), tm1 (List.mem_of_getElem? (i := 14) (by decide +kernel)) (by decide +kernel), by decide +kernel, by decide +kernel, by decide +kernel⟩
theorem mi_X12_handler : Cond.instanceMethod yX12_handler ∈ mTb := tm6 (List.mem_of_getElem? (i := 161) (by decide +kernel)) (by decide +kernel)
theorem ms_X12_handler : Cond.selects yX12_handler.cls yX12_handler yX12_handler ∈ mTb := tm6 (List.mem_of_getElem? (i := 162) (by decide +kernel)) (by decide +kernel)
theorem me_X12_image : mMe yX12_image cX12_image 2 (some .int) 1 := ⟨tm7 (List.mem_of_getElem? (i := 115) (by decide +kernel)) (by decide +kernel), tm1 (List.mem_of_getElem? (i := 14) (by decide +kernel)) (by decide +kernel), by decide +kernel, by decide +kernel, by decide +kernel⟩
theorem mi_X12_image : Cond.instanceMethod yX12_image ∈ mTb := tm7 (List.mem_of_getElem? (i := 113) (by decide +kernel)) (by decide +kernel)
theorem ms_X12_image : Cond.selects yX12_image.cls yX12_image yX12_image ∈ mTb := tm7 (List.mem_of_getElem? (i := 114) (by decide +kernel)) (by decide +kernel)
theorem me_X12_law : mMe yX12_law cX12_law 5 (some .int) 4 := ⟨tm6 (List.mem_of_getElem? (i := 143) (by decide +kernel)) (by decide +kernel), tm1 (List.mem_of_getElem? (i := 14) (by decide +kernel)) (by decide +kernel), by decide +kernel, by decide +kernel, by decide +kernel⟩
theorem mi_X12_law : Cond.instanceMethod yX12_law ∈ mTb := tm6 (List.mem_of_getElem? (i := 141) (by decide +kernel)) (by decide +kernel)
theorem ms_X12_law : Cond.selects yX12_law.cls yX12_law yX12_law ∈ mTb := tm6 (List.mem_of_getElem? (i := 142) (by decide +kernel)) (by decide +kernel)
theorem me_X12_locks : mMe yX12_locks cX12_locks 3 (some .int) 1 := ⟨tm6 (List.mem_of_getElem? (i := 167) (by decide +kernel)) (by decide +kernel), tm1 (List.mem_of_getElem? (i := 14) (by decide +kernel)) (by decide +kernel), by decide +kernel, by decide +kernel, by decide +kernel⟩
theorem mi_X12_locks : Cond.instanceMethod yX12_locks ∈ mTb := tm6 (List.mem_of_getElem? (i := 165) (by decide +kernel)) (by decide +kernel)
theorem ms_X12_locks : Cond.selects yX12_locks.cls yX12_locks yX12_locks ∈ mTb := tm6 (List.mem_of_getElem? (i := 166) (by decide +kernel)) (by decide +kernel)
theorem me_X12_op : mMe yX12_op cX12_op 4 (some .int) 3 := ⟨tm6 (List.mem_of_getElem? (i := 203) (by decide +kernel)) (by decide +kernel), tm1 (List.mem_of_getElem? (i := 14) (by decide +kernel)) (by decide +kernel), by decide +kernel, by decide +kernel, by decide +kernel⟩
theorem mi_X12_op : Cond.instanceMethod yX12_op ∈ mTb := tm6 (List.mem_of_getElem? (i := 201) (by decide +kernel)) (by decide +kernel)
theorem ms_X12_op : Cond.selects yX12_op.cls yX12_op yX12_op ∈ mTb := tm6 (List.mem_of_getElem? (i := 202) (by decide +kernel)) (by decide +kernel)
theorem me_X12_peek : mMe yX12_peek cX12_peek 4 (some .int) 2 := ⟨tm7 (List.mem_of_getElem? (i := 60) (by decide +kernel)) (by decide +kernel), tm1 (List.mem_of_getElem? (i := 14) (by decide +kernel)) (by decide +kernel), by decide +kernel, by decide +kernel, by decide +kernel⟩
theorem mi_X12_peek : Cond.instanceMethod yX12_peek ∈ mTb := tm7 (List.mem_of_getElem? (i := 58) (by decide +kernel)) (by decide +kernel)
theorem ms_X12_peek : Cond.selects yX12_peek.cls yX12_peek yX12_peek ∈ mTb := tm7 (List.mem_of_getElem? (i := 59) (by decide +kernel)) (by decide +kernel)
theorem me_X12_period : mMe yX12_period cX12_period 4 (some .int) 2 := ⟨tm6 (List.mem_of_getElem? (i := 131) (by decide +kernel)) (by decide +kernel), tm1 (List.mem_of_getElem? (i := 14) (by decide +kernel)) (by decide +kernel), by decide +kernel, by decide +kernel, by decide +kernel⟩
theorem mi_X12_period : Cond.instanceMethod yX12_period ∈ mTb := tm6 (List.mem_of_getElem? (i := 129) (by decide +kernel)) (by decide +kernel)
theorem ms_X12_period : Cond.selects yX12_period.cls yX12_period yX12_period ∈ mTb := tm6 (List.mem_of_getElem? (i := 130) (by decide +kernel)) (by decide +kernel)
theorem me_X12_play : mMe yX12_play cX12_play 7 (some .int) 3 := ⟨tm7 (List.mem_of_getElem? (i := 131) (by decide +kernel)) (by decide +kernel), tm1 (List.mem_of_getElem? (i := 14) (by decide +kernel)) (by decide +kernel), by decide +kernel, by decide +kernel, by decide +kernel⟩
theorem mi_X12_play : Cond.instanceMethod yX12_play ∈ mTb := tm7 (List.mem_of_getElem? (i := 129) (by decide +kernel)) (by decide +kernel)
theorem ms_X12_play : Cond.selects yX12_play.cls yX12_play yX12_play ∈ mTb := tm7 (List.mem_of_getElem? (i := 130) (by decide +kernel)) (by decide +kernel)
theorem me_X12_power : mMe yX12_power cX12_power 1 (some .int) 0 := ⟨tm6 (List.mem_of_getElem? (i := 211) (by decide +kernel)) (by decide +kernel), tm1 (List.mem_of_getElem? (i := 14) (by decide +kernel)) (by decide +kernel), by decide +kernel, by decide +kernel, by decide +kernel⟩
theorem mi_X12_power : Cond.instanceMethod yX12_power ∈ mTb := tm6 (List.mem_of_getElem? (i := 209) (by decide +kernel)) (by decide +kernel)
theorem ms_X12_power : Cond.selects yX12_power.cls yX12_power yX12_power ∈ mTb := tm6 (List.mem_of_getElem? (i := 210) (by decide +kernel)) (by decide +kernel)
theorem me_X12_put : mMe yX12_put cX12_put 5 (some .int) 3 := ⟨tm7 (List.mem_of_getElem? (i := 139) (by decide +kernel)) (by decide +kernel), tm1 (List.mem_of_getElem? (i := 14) (by decide +kernel)) (by decide +kernel), by decide +kernel, by decide +kernel, by decide +kernel⟩
theorem mi_X12_put : Cond.instanceMethod yX12_put ∈ mTb := tm7 (List.mem_of_getElem? (i := 137) (by decide +kernel)) (by decide +kernel)
theorem ms_X12_put : Cond.selects yX12_put.cls yX12_put yX12_put ∈ mTb := tm7 (List.mem_of_getElem? (i := 138) (by decide +kernel)) (by decide +kernel)
theorem me_X12_read : mMe yX12_read cX12_read 2 (some .int) 1 := ⟨tm7 (List.mem_of_getElem? (i := 47) (by decide +kernel)) (by decide +kernel), tm1 (List.mem_of_getElem? (i := 14) (by decide +kernel)) (by decide +kernel), by decide +kernel, by decide +kernel, by decide +kernel⟩
theorem mi_X12_read : Cond.instanceMethod yX12_read ∈ mTb := tm7 (List.mem_of_getElem? (i := 45) (by decide +kernel)) (by decide +kernel)
theorem ms_X12_read : Cond.selects yX12_read.cls yX12_read yX12_read ∈ mTb := tm7 (List.mem_of_getElem? (i := 46) (by decide +kernel)) (by decide +kernel)
theorem me_X12_result : mMe yX12_result cX12_result 1 (some .int) 0 := ⟨tm7 (List.mem_of_getElem? (i := 68) (by decide +kernel)) (by decide +kernel), tm1 (List.mem_of_getElem? (i := 14) (by decide +kernel)) (by decide +kernel), by decide +kernel, by decide +kernel, by decide +kernel⟩
theorem mi_X12_result : Cond.instanceMethod yX12_result ∈ mTb := tm7 (List.mem_of_getElem? (i := 66) (by decide +kernel)) (by decide +kernel)
theorem ms_X12_result : Cond.selects yX12_result.cls yX12_result yX12_result ∈ mTb := tm7 (List.mem_of_getElem? (i := 67) (by decide +kernel)) (by decide +kernel)
theorem me_X12_run : mMe yX12_run cX12_run 4 (some .int) 1 := ⟨tm6 (List.mem_of_getElem? (i := 223) (by decide +kernel)) (by decide +kernel), tm1 (List.mem_of_getElem? (i := 14) (by decide +kernel)) (by decide +kernel), by decide +kernel, by decide +kernel, by decide +kernel⟩
theorem mi_X12_run : Cond.instanceMethod yX12_run ∈ mTb := tm6 (List.mem_of_getElem? (i := 221) (by decide +kernel)) (by decide +kernel)
theorem ms_X12_run : Cond.selects yX12_run.cls yX12_run yX12_run ∈ mTb := tm6 (List.mem_of_getElem? (i := 222) (by decide +kernel)) (by decide +kernel)
theorem me_X12_same : mMe yX12_same cX12_same 5 (some .int) 2 := ⟨tm6 (List.mem_of_getElem? (i := 207) (by decide +kernel)) (by decide +kernel), tm1 (List.mem_of_getElem? (i := 14) (by decide +kernel)) (by decide +kernel), by decide +kernel, by decide +kernel, by decide +kernel⟩
theorem mi_X12_same : Cond.instanceMethod yX12_same ∈ mTb := tm6 (List.mem_of_getElem? (i := 205) (by decide +kernel)) (by decide +kernel)
theorem ms_X12_same : Cond.selects yX12_same.cls yX12_same yX12_same ∈ mTb := tm6 (List.mem_of_getElem? (i := 206) (by decide +kernel)) (by decide +kernel)
theorem me_X12_shadow : mMe yX12_shadow cX12_shadow 2 (some .int) 1 := ⟨tm7 (List.mem_of_getElem? (i := 64) (by decide +kernel)) (by decide +kernel), tm1 (List.mem_of_getElem? (i := 14) (by decide +kernel)) (by decide +kernel), by decide +kernel, by decide +kernel, by decide +kernel⟩
theorem mi_X12_shadow : Cond.instanceMethod yX12_shadow ∈ mTb := tm7 (List.mem_of_getElem? (i := 62) (by decide +kernel)) (by decide +kernel)
theorem ms_X12_shadow : Cond.selects yX12_shadow.cls yX12_shadow yX12_shadow ∈ mTb := tm7 (List.mem_of_getElem? (i := 63) (by decide +kernel)) (by decide +kernel)
theorem me_X12_step : mMe yX12_step cX12_step 8 (some .int) 5 := ⟨tm6 (List.mem_of_getElem? (i := 151) (by decide +kernel)) (by decide +kernel), tm1 (List.mem_of_getElem? (i := 14) (by decide +kernel)) (by decide +kernel), by decide +kernel, by decide +kernel, by decide +kernel⟩
theorem mi_X12_step : Cond.instanceMethod yX12_step ∈ mTb := tm6 (List.mem_of_getElem? (i := 149) (by decide +kernel)) (by decide +kernel)
theorem ms_X12_step : Cond.selects yX12_step.cls yX12_step yX12_step ∈ mTb := tm6 (List.mem_of_getElem? (i := 150) (by decide +kernel)) (by decide +kernel)
theorem me_X12_tape : mMe yX12_tape cX12_tape 5 (some .int) 3 := ⟨tm7 (List.mem_of_getElem? (i := 104) (by decide +kernel)) (by decide +kernel), tm1 (List.mem_of_getElem? (i := 14) (by decide +kernel)) (by decide +kernel), by decide +kernel, by decide +kernel, by decide +kernel⟩
theorem mi_X12_tape : Cond.instanceMethod yX12_tape ∈ mTb := tm7 (List.mem_of_getElem? (i := 102) (by decide +kernel)) (by decide +kernel)
theorem ms_X12_tape : Cond.selects yX12_tape.cls yX12_tape yX12_tape ∈ mTb := tm7 (List.mem_of_getElem? (i := 103) (by decide +kernel)) (by decide +kernel)
theorem me_X12_toss : mMe yX12_toss cX12_toss 3 (some .int) 1 := ⟨tm7 (List.mem_of_getElem? (i := 127) (by decide +kernel)) (by decide +kernel), tm1 (List.mem_of_getElem? (i := 14) (by decide +kernel)) (by decide +kernel), by decide +kernel, by decide +kernel, by decide +kernel⟩
theorem mi_X12_toss : Cond.instanceMethod yX12_toss ∈ mTb := tm7 (List.mem_of_getElem? (i := 125) (by decide +kernel)) (by decide +kernel)
theorem ms_X12_toss : Cond.selects yX12_toss.cls yX12_toss yX12_toss ∈ mTb := tm7 (List.mem_of_getElem? (i := 126) (by decide +kernel)) (by decide +kernel)
theorem me_X12_wait : mMe yX12_wait cX12_wait 3 (some .int) 1 := ⟨tm7 (List.mem_of_getElem? (i := 56) (by decide +kernel)) (by decide +kernel), tm1 (List.mem_of_getElem? (i := 14) (by decide +kernel)) (by decide +kernel), by decide +kernel, by decide +kernel, by decide +kernel⟩
theorem mi_X12_wait : Cond.instanceMethod yX12_wait ∈ mTb := tm7 (List.mem_of_getElem? (i := 54) (by decide +kernel)) (by decide +kernel)
theorem ms_X12_wait : Cond.selects yX12_wait.cls yX12_wait yX12_wait ∈ mTb := tm7 (List.mem_of_getElem? (i := 55) (by decide +kernel)) (by decide +kernel)
theorem me_X12_walk : mMe yX12_walk cX12_walk 10 (some .int) 2 := ⟨tm7 (List.mem_of_getElem? (i := 76) (by decide +kernel)) (by decide +kernel), tm1 (List.mem_of_getElem? (i := 14) (by decide +kernel)) (by decide +kernel), by decide +kernel, by decide +kernel, by decide +kernel⟩
theorem mi_X12_walk : Cond.instanceMethod yX12_walk ∈ mTb := tm7 (List.mem_of_getElem? (i := 74) (by decide +kernel)) (by decide +kernel)
theorem ms_X12_walk : Cond.selects yX12_walk.cls yX12_walk yX12_walk ∈ mTb := tm7 (List.mem_of_getElem? (i := 75) (by decide +kernel)) (by decide +kernel)
theorem me_X12_why : mMe yX12_why cX12_why 2 (some .int) 1 := ⟨tm7 (List.mem_of_getElem? (i := 100) (by decide +kernel)) (by decide +kernel), tm1 (List.mem_of_getElem? (i := 14) (by decide +kernel)) (by decide +kernel), by decide +kernel, by decide +kernel, by decide +kernel⟩
theorem mi_X12_why : Cond.instanceMethod yX12_why ∈ mTb := tm7 (List.mem_of_getElem? (i := 98) (by decide +kernel)) (by decide +kernel)
theorem ms_X12_why : Cond.selects yX12_why.cls yX12_why yX12_why ∈ mTb := tm7 (List.mem_of_getElem? (i := 99) (by decide +kernel)) (by decide +kernel)
theorem me_X12_write : mMe yX12_write cX12_write 3 (some .int) 2 := ⟨tm7 (List.mem_of_getElem? (i := 51) (by decide +kernel)) (by decide +kernel), tm1 (List.mem_of_getElem? (i := 14) (by decide +kernel)) (by decide +kernel), by decide +kernel, by decide +kernel, by decide +kernel⟩
theorem mi_X12_write : Cond.instanceMethod yX12_write ∈ mTb := tm7 (List.mem_of_getElem? (i := 49) (by decide +kernel)) (by decide +kernel)
theorem ms_X12_write : Cond.selects yX12_write.cls yX12_write yX12_write ∈ mTb := tm7 (List.mem_of_getElem? (i := 50) (by decide +kernel)) (by decide +kernel)
theorem vi_RL_21 : mVi RL 21 yX11_begin 11 := ⟨11, TX11, cls_11, rfl, by decide, tm3 (List.mem_of_getElem? (i := 16) (by decide +kernel)) (by decide +kernel), mi_X11_begin, ms_X11_begin⟩
theorem vi_RL_25 : mVi RL 25 yX12_begin 12 := ⟨12, TX12, cls_12, rfl, by decide, tm6 (List.mem_of_getElem? (i := 97) (by decide +kernel)) (by decide +kernel), mi_X12_begin, ms_X12_begin⟩
theorem vi_RL_26 : mVi RL 26 yX11_field 11 := ⟨11, TX11, cls_11, rfl, by decide, tm3 (List.mem_of_getElem? (i := 48) (by decide +kernel)) (by decide +kernel), mi_X11_field, ms_X11_field⟩
theorem vi_RL_30 : mVi RL 30 yX12_field 12 := ⟨12, TX12, cls_12, rfl, by decide, tm6 (List.mem_of_getElem? (i := 112) (by decide +kernel)) (by decide +kernel), mi_X12_field, ms_X12_field⟩
theorem vi_RL_31 : mVi RL 31 yX11_period 11 := ⟨11, TX11, cls_11, rfl, by decide, tm3 (List.mem_of_getElem? (i := 67) (by decide +kernel)) (by decide +kernel), mi_X11_period, ms_X11_period⟩
theorem vi_RL_35 : mVi RL 35 yX12_period 12 := ⟨12, TX12, cls_12, rfl, by decide, tm6 (List.mem_of_getElem? (i := 128) (by decide +kernel)) (by decide +kernel), mi_X12_period, ms_X12_period⟩
theorem vi_RL_36 : mVi RL 36 yX11_done 11 := ⟨11, TX11, cls_11, rfl, by decide, tm3 (List.mem_of_getElem? (i := 79) (by decide +kernel)) (by decide +kernel), mi_X11_done, ms_X11_done⟩
theorem vi_RL_39 : mVi RL 39 yX12_done 12 := ⟨12, TX12, cls_12, rfl, by decide, tm6 (List.mem_of_getElem? (i := 136) (by decide +kernel)) (by decide +kernel), mi_X12_done, ms_X12_done⟩
theorem vi_RL_40 : mVi RL 40 yX11_law 11 := ⟨11, TX11, cls_11, rfl, by decide, tm3 (List.mem_of_getElem? (i := 87) (by decide +kernel)) (by decide +kernel), mi_X11_law, ms_X11_law⟩
theorem vi_RL_44 : mVi RL 44 yX12_law 12 := ⟨12, TX12, cls_12, rfl, by decide, tm6 (List.mem_of_getElem? (i := 140) (by decide +kernel)) (by decide +kernel), mi_X12_law, ms_X12_law⟩
theorem vi_RL_45 : mVi RL 45 yX11_act 11 := ⟨11, TX11, cls_11, rfl, by decide, tm3 (List.mem_of_getElem? (i := 95) (by decide +kernel)) (by decide +kernel), mi_X11_act, ms_X11_act⟩
theorem vi_RL_49 : mVi RL 49 yX12_act 12 := ⟨12, TX12, cls_12, rfl, by decide, tm6 (List.mem_of_getElem? (i := 144) (by decide +kernel)) (by decide +kernel), mi_X12_act, ms_X12_act⟩
theorem vi_RL_50 : mVi RL 50 yX11_step 11 := ⟨11, TX11, cls_11, rfl, by decide, tm3 (List.mem_of_getElem? (i := 103) (by decide +kernel)) (by decide +kernel), mi_X11_step, ms_X11_step⟩
theorem vi_RL_53 : mVi RL 53 yX12_step 12 := ⟨12, TX12, cls_12, rfl, by decide, tm6 (List.mem_of_getElem? (i := 148) (by decide +kernel)) (by decide +kernel), mi_X12_step, ms_X12_step⟩
theorem vi_RL_54 : mVi RL 54 yX11_bare 11 := ⟨11, TX11, cls_11, rfl, by decide, tm3 (List.mem_of_getElem? (i := 126) (by decide +kernel)) (by decide +kernel), mi_X11_bare, ms_X11_bare⟩
theorem vi_RL_57 : mVi RL 57 yX12_bare 12 := ⟨12, TX12, cls_12, rfl, by decide, tm6 (List.mem_of_getElem? (i := 156) (by decide +kernel)) (by decide +kernel), mi_X12_bare, ms_X12_bare⟩
theorem vi_RL_58 : mVi RL 58 yX11_handler 11 := ⟨11, TX11, cls_11, rfl, by decide, tm3 (List.mem_of_getElem? (i := 134) (by decide +kernel)) (by decide +kernel), mi_X11_handler, ms_X11_handler⟩
theorem vi_RL_61 : mVi RL 61 yX12_handler 12 := ⟨12, TX12, cls_12, rfl, by decide, tm6 (List.mem_of_getElem? (i := 160) (by decide +kernel)) (by decide +kernel), mi_X12_handler, ms_X12_handler⟩
theorem vi_RL_62 : mVi RL 62 yX11_locks 11 := ⟨11, TX11, cls_11, rfl, by decide, tm3 (List.mem_of_getElem? (i := 142) (by decide +kernel)) (by decide +kernel), mi_X11_locks, ms_X11_locks⟩
theorem vi_RL_65 : mVi RL 65 yX12_locks 12 := ⟨12, TX12, cls_12, rfl, by decide, tm6 (List.mem_of_getElem? (i := 164) (by decide +kernel)) (by decide +kernel), mi_X12_locks, ms_X12_locks⟩
theorem vi_RL_66 : mVi RL 66 yX11_code 11 := ⟨11, TX11, cls_11, rfl, by decide, tm3 (List.mem_of_getElem? (i := 150) (by decide +kernel)) (by decide +kernel), mi_X11_code, ms_X11_code⟩
theorem vi_RL_69 : mVi RL 69 yX12_code 12 := ⟨12, TX12, cls_12, rfl, by decide, tm6 (List.mem_of_getElem? (i := 168) (by decide +kernel)) (by decide +kernel), mi_X12_code, ms_X12_code⟩
theorem vi_RL_70 : mVi RL 70 yX11_op 11 := ⟨11, TX11, cls_11, rfl, by decide, tm3 (List.mem_of_getElem? (i := 212) (by decide +kernel)) (by decide +kernel), mi_X11_op, ms_X11_op⟩
theorem vi_RL_74 : mVi RL 74 yX12_op 12 := ⟨12, TX12, cls_12, rfl, by decide, tm6 (List.mem_of_getElem? (i := 200) (by decide +kernel)) (by decide +kernel), mi_X12_op, ms_X12_op⟩
theorem vi_RL_75 : mVi RL 75 yX11_same 11 := ⟨11, TX11, cls_11, rfl, by decide, tm3 (List.mem_of_getElem? (i := 220) (by decide +kernel)) (by decide +kernel), mi_X11_same, ms_X11_same⟩
theorem vi_RL_78 : mVi RL 78 yX12_same 12 := ⟨12, TX12, cls_12, rfl, by decide, tm6 (List.mem_of_getElem? (i := 204) (by decide +kernel)) (by decide +kernel), mi_X12_same, ms_X12_same⟩
theorem vi_RL_79 : mVi RL 79 yX11_power 11 := ⟨11, TX11, cls_11, rfl, by decide, tm3 (List.mem_of_getElem? (i := 228) (by decide +kernel)) (by decide +kernel), mi_X11_power, ms_X11_power⟩
theorem vi_RL_82 : mVi RL 82 yX12_power 12 := ⟨12, TX12, cls_12, rfl, by decide, tm6 (List.mem_of_getElem? (i := 208) (by decide +kernel)) (by decide +kernel), mi_X12_power, ms_X12_power⟩
theorem vi_RL_83 : mVi RL 83 yX11_event 11 := ⟨11, TX11, cls_11, rfl, by decide, tm3 (List.mem_of_getElem? (i := 232) (by decide +kernel)) (by decide +kernel), mi_X11_event, ms_X11_event⟩
theorem vi_RL_86 : mVi RL 86 yX12_event 12 := ⟨12, TX12, cls_12, rfl, by decide, tm6 (List.mem_of_getElem? (i := 212) (by decide +kernel)) (by decide +kernel), mi_X12_event, ms_X12_event⟩
theorem vi_RL_87 : mVi RL 87 yX11_run 11 := ⟨11, TX11, cls_11, rfl, by decide, tm4 (List.mem_of_getElem? (i := 0) (by decide +kernel)) (by decide +kernel), mi_X11_run, ms_X11_run⟩
theorem vi_RL_90 : mVi RL 90 yX12_run 12 := ⟨12, TX12, cls_12, rfl, by decide, tm6 (List.mem_of_getElem? (i := 220) (by decide +kernel)) (by decide +kernel), mi_X12_run, ms_X12_run⟩
theorem vi_RL_91 : mVi RL 91 yX11_read 11 := ⟨11, TX11, cls_11, rfl, by decide, tm4 (List.mem_of_getElem? (i := 109) (by decide +kernel)) (by decide +kernel), mi_X11_read, ms_X11_read⟩
theorem vi_RL_94 : mVi RL 94 yX12_read 12 := ⟨12, TX12, cls_12, rfl, by decide, tm7 (List.mem_of_getElem? (i := 44) (by decide +kernel)) (by decide +kernel), mi_X12_read, ms_X12_read⟩
theorem vi_RL_95 : mVi RL 95 yX11_write 11 := ⟨11, TX11, cls_11, rfl, by decide, tm4 (List.mem_of_getElem? (i := 114) (by decide +kernel)) (by decide +kernel), mi_X11_write, ms_X11_write⟩
theorem vi_RL_98 : mVi RL 98 yX12_write 12 := ⟨12, TX12, cls_12, rfl, by decide, tm7 (List.mem_of_getElem? (i := 48) (by decide +kernel)) (by decide +kernel), mi_X12_write, ms_X12_write⟩
theorem vi_RL_99 : mVi RL 99 yX11_wait 11 := ⟨11, TX11, cls_11, rfl, by decide, tm4 (List.mem_of_getElem? (i := 119) (by decide +kernel)) (by decide +kernel), mi_X11_wait, ms_X11_wait⟩
theorem vi_RL_102 : mVi RL 102 yX12_wait 12 := ⟨12, TX12, cls_12, rfl, by decide, tm7 (List.mem_of_getElem? (i := 53) (by decide +kernel)) (by decide +kernel), mi_X12_wait, ms_X12_wait⟩
theorem vi_RL_103 : mVi RL 103 yX11_peek 11 := ⟨11, TX11, cls_11, rfl, by decide, tm4 (List.mem_of_getElem? (i := 124) (by decide +kernel)) (by decide +kernel), mi_X11_peek, ms_X11_peek⟩
theorem vi_RL_106 : mVi RL 106 yX12_peek 12 := ⟨12, TX12, cls_12, rfl, by decide, tm7 (List.mem_of_getElem? (i := 57) (by decide +kernel)) (by decide +kernel), mi_X12_peek, ms_X12_peek⟩
theorem vi_RL_107 : mVi RL 107 yX11_shadow 11 := ⟨11, TX11, cls_11, rfl, by decide, tm4 (List.mem_of_getElem? (i := 128) (by decide +kernel)) (by decide +kernel), mi_X11_shadow, ms_X11_shadow⟩
theorem vi_RL_110 : mVi RL 110 yX12_shadow 12 := ⟨12, TX12, cls_12, rfl, by decide, tm7 (List.mem_of_getElem? (i := 61) (by decide +kernel)) (by decide +kernel), mi_X12_shadow, ms_X12_shadow⟩
theorem vi_RL_111 : mVi RL 111 yX11_result 11 := ⟨11, TX11, cls_11, rfl, by decide, tm4 (List.mem_of_getElem? (i := 132) (by decide +kernel)) (by decide +kernel), mi_X11_result, ms_X11_result⟩
theorem vi_RL_114 : mVi RL 114 yX12_result 12 := ⟨12, TX12, cls_12, rfl, by decide, tm7 (List.mem_of_getElem? (i := 65) (by decide +kernel)) (by decide +kernel), mi_X12_result, ms_X12_result⟩
theorem vi_RL_115 : mVi RL 115 yX11_breaks 11 := ⟨11, TX11, cls_11, rfl, by decide, tm4 (List.mem_of_getElem? (i := 136) (by decide +kernel)) (by decide +kernel), mi_X11_breaks, ms_X11_breaks⟩
theorem vi_RL_118 : mVi RL 118 yX12_breaks 12 := ⟨12, TX12, cls_12, rfl, by decide, tm7 (List.mem_of_getElem? (i := 69) (by decide +kernel)) (by decide +kernel), mi_X12_breaks, ms_X12_breaks⟩
theorem vi_RL_119 : mVi RL 119 yX11_walk 11 := ⟨11, TX11, cls_11, rfl, by decide, tm4 (List.mem_of_getElem? (i := 140) (by decide +kernel)) (by decide +kernel), mi_X11_walk, ms_X11_walk⟩
theorem vi_RL_122 : mVi RL 122 yX12_walk 12 := ⟨12, TX12, cls_12, rfl, by decide, tm7 (List.mem_of_getElem? (i := 73) (by decide +kernel)) (by decide +kernel), mi_X12_walk, ms_X12_walk⟩
theorem vi_RL_123 : mVi RL 123 yX11_why 11 := ⟨11, TX11, cls_11, rfl, by decide, tm4 (List.mem_of_getElem? (i := 188) (by decide +kernel)) (by decide +kernel), mi_X11_why, ms_X11_why⟩
theorem vi_RL_126 : mVi RL 126 yX12_why 12 := ⟨12, TX12, cls_12, rfl, by decide, tm7 (List.mem_of_getElem? (i := 97) (by decide +kernel)) (by decide +kernel), mi_X12_why, ms_X12_why⟩
theorem vi_RL_127 : mVi RL 127 yX11_tape 11 := ⟨11, TX11, cls_11, rfl, by decide, tm4 (List.mem_of_getElem? (i := 192) (by decide +kernel)) (by decide +kernel), mi_X11_tape, ms_X11_tape⟩
theorem vi_RL_130 : mVi RL 130 yX12_tape 12 := ⟨12, TX12, cls_12, rfl, by decide, tm7 (List.mem_of_getElem? (i := 101) (by decide +kernel)) (by decide +kernel), mi_X12_tape, ms_X12_tape⟩
theorem vi_RL_131 : mVi RL 131 yX11_image 11 := ⟨11, TX11, cls_11, rfl, by decide, tm4 (List.mem_of_getElem? (i := 208) (by decide +kernel)) (by decide +kernel), mi_X11_image, ms_X11_image⟩
theorem vi_RL_134 : mVi RL 134 yX12_image 12 := ⟨12, TX12, cls_12, rfl, by decide, tm7 (List.mem_of_getElem? (i := 112) (by decide +kernel)) (by decide +kernel), mi_X12_image, ms_X12_image⟩
theorem vi_RL_135 : mVi RL 135 yX11_back 11 := ⟨11, TX11, cls_11, rfl, by decide, tm4 (List.mem_of_getElem? (i := 217) (by decide +kernel)) (by decide +kernel), mi_X11_back, ms_X11_back⟩
theorem vi_RL_138 : mVi RL 138 yX12_back 12 := ⟨12, TX12, cls_12, rfl, by decide, tm7 (List.mem_of_getElem? (i := 116) (by decide +kernel)) (by decide +kernel), mi_X12_back, ms_X12_back⟩
theorem nk_RL_139 : Cond.methodLink RL 139 yX11_toss ∈ mTb := tm4 (List.mem_of_getElem? (i := 222) (by decide +kernel)) (by decide +kernel)
theorem vi_RL_142 : mVi RL 142 yX12_toss 12 := ⟨12, TX12, cls_12, rfl, by decide, tm7 (List.mem_of_getElem? (i := 124) (by decide +kernel)) (by decide +kernel), mi_X12_toss, ms_X12_toss⟩
theorem vi_RL_143 : mVi RL 143 yX11_play 11 := ⟨11, TX11, cls_11, rfl, by decide, tm5 (List.mem_of_getElem? (i := 58) (by decide +kernel)) (by decide +kernel), mi_X11_play, ms_X11_play⟩
theorem vi_RL_146 : mVi RL 146 yX12_play 12 := ⟨12, TX12, cls_12, rfl, by decide, tm7 (List.mem_of_getElem? (i := 128) (by decide +kernel)) (by decide +kernel), mi_X12_play, ms_X12_play⟩
theorem vi_RL_147 : mVi RL 147 yX11_clear 11 := ⟨11, TX11, cls_11, rfl, by decide, tm5 (List.mem_of_getElem? (i := 66) (by decide +kernel)) (by decide +kernel), mi_X11_clear, ms_X11_clear⟩
theorem vi_RL_150 : mVi RL 150 yX12_clear 12 := ⟨12, TX12, cls_12, rfl, by decide, tm7 (List.mem_of_getElem? (i := 132) (by decide +kernel)) (by decide +kernel), mi_X12_clear, ms_X12_clear⟩
theorem vi_RL_153 : mVi RL 153 yX11_put 11 := ⟨11, TX11, cls_11, rfl, by decide, tm5 (List.mem_of_getElem? (i := 70) (by decide +kernel)) (by decide +kernel), mi_X11_put, ms_X11_put⟩
theorem vi_RL_157 : mVi RL 157 yX12_put 12 := ⟨12, TX12, cls_12, rfl, by decide, tm7 (List.mem_of_getElem? (i := 136) (by decide +kernel)) (by decide +kernel), mi_X12_put, ms_X12_put⟩
theorem nk_RL_158 : Cond.methodLink RL 158 yL_at ∈ mTb := tm5 (List.mem_of_getElem? (i := 95) (by decide +kernel)) (by decide +kernel)
theorem vi_RL_163 : mVi RL 163 yX12_at 12 := ⟨12, TX12, cls_12, rfl, by decide, tm7 (List.mem_of_getElem? (i := 143) (by decide +kernel)) (by decide +kernel), mi_X12_at, ms_X12_at⟩
theorem vi_RL_164 : mVi RL 164 yX11_copy 11 := ⟨11, TX11, cls_11, rfl, by decide, tm5 (List.mem_of_getElem? (i := 82) (by decide +kernel)) (by decide +kernel), mi_X11_copy, ms_X11_copy⟩
theorem vi_RL_167 : mVi RL 167 yX12_copy 12 := ⟨12, TX12, cls_12, rfl, by decide, tm7 (List.mem_of_getElem? (i := 147) (by decide +kernel)) (by decide +kernel), mi_X12_copy, ms_X12_copy⟩
theorem vi_RL_168 : mVi RL 168 yX11_count 11 := ⟨11, TX11, cls_11, rfl, by decide, tm5 (List.mem_of_getElem? (i := 91) (by decide +kernel)) (by decide +kernel), mi_X11_count, ms_X11_count⟩
theorem vi_RL_171 : mVi RL 171 yX12_count 12 := ⟨12, TX12, cls_12, rfl, by decide, tm7 (List.mem_of_getElem? (i := 151) (by decide +kernel)) (by decide +kernel), mi_X12_count, ms_X12_count⟩
theorem kb_32 : (Int8.ofInt 32).toInt32 = 32 := by decide
theorem kb_63 : (Int8.ofInt 63).toInt32 = 63 := by decide
theorem kc_RL_151 : Cond.constantLong RL 151 4294967295 ∈ mTb := tm7 (List.mem_of_getElem? (i := 155) (by decide +kernel)) (by decide +kernel)
