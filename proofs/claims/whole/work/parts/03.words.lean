theorem kl_Jx4a65c_add_72be8 : Cond.selects RJx4a65c yJx4a65c_add_72be8 yJx4a65c_add_72be8 ∈ Tg := List.mem_filter.mpr ⟨List.mem_of_getElem? (i := 0) (by decide +kernel), by decide +kernel⟩
theorem kl_Jx4a65c_grow_d5877 : Cond.selects RJx4a65c yJx4a65c_grow_d5877 yJx4a65c_grow_d5877 ∈ Tg := List.mem_filter.mpr ⟨List.mem_of_getElem? (i := 1) (by decide +kernel), by decide +kernel⟩
theorem kl_Jx4a65c_grow_92f84 : Cond.selects RJx4a65c yJx4a65c_grow_92f84 yJx4a65c_grow_92f84 ∈ Tg := List.mem_filter.mpr ⟨List.mem_of_getElem? (i := 2) (by decide +kernel), by decide +kernel⟩
theorem kl_X4_callFrame : Cond.selects RX4 yX4_callFrame yX4_callFrame ∈ Tg := List.mem_filter.mpr ⟨List.mem_of_getElem? (i := 3) (by decide +kernel), by decide +kernel⟩
theorem kl_X4_makeFrame : Cond.selects RX4 yX4_makeFrame yX4_makeFrame ∈ Tg := List.mem_filter.mpr ⟨List.mem_of_getElem? (i := 4) (by decide +kernel), by decide +kernel⟩
theorem kl_X5_refuse : Cond.selects RX5 yX5_refuse yX5_refuse ∈ Tg := List.mem_filter.mpr ⟨List.mem_of_getElem? (i := 5) (by decide +kernel), by decide +kernel⟩
theorem kl_X4_raise : Cond.selects RX4 yX4_raise yX4_raise ∈ Tg := List.mem_filter.mpr ⟨List.mem_of_getElem? (i := 6) (by decide +kernel), by decide +kernel⟩
theorem kl_X4_performFrame : Cond.selects RX4 yX4_performFrame yX4_performFrame ∈ Tg := List.mem_filter.mpr ⟨List.mem_of_getElem? (i := 7) (by decide +kernel), by decide +kernel⟩
theorem kl_X4_performAct : Cond.selects RX4 yX4_performAct yX4_performAct ∈ Tg := List.mem_filter.mpr ⟨List.mem_of_getElem? (i := 8) (by decide +kernel), by decide +kernel⟩
theorem kl_X4_doAct : Cond.selects RX4 yX4_doAct yX4_doAct ∈ Tg := List.mem_filter.mpr ⟨List.mem_of_getElem? (i := 9) (by decide +kernel), by decide +kernel⟩
theorem kl_X4_setNumber : Cond.selects RX4 yX4_setNumber yX4_setNumber ∈ Tg := List.mem_filter.mpr ⟨List.mem_of_getElem? (i := 10) (by decide +kernel), by decide +kernel⟩
theorem kl_X4_reckon : Cond.selects RX4 yX4_reckon yX4_reckon ∈ Tg := List.mem_filter.mpr ⟨List.mem_of_getElem? (i := 11) (by decide +kernel), by decide +kernel⟩
theorem kl_X4_divide : Cond.selects RX4 yX4_divide yX4_divide ∈ Tg := List.mem_filter.mpr ⟨List.mem_of_getElem? (i := 12) (by decide +kernel), by decide +kernel⟩
theorem kl_X4_jump : Cond.selects RX4 yX4_jump yX4_jump ∈ Tg := List.mem_filter.mpr ⟨List.mem_of_getElem? (i := 13) (by decide +kernel), by decide +kernel⟩
theorem kl_X4_newRow : Cond.selects RX4 yX4_newRow yX4_newRow ∈ Tg := List.mem_filter.mpr ⟨List.mem_of_getElem? (i := 14) (by decide +kernel), by decide +kernel⟩
theorem kl_X4_putPlace : Cond.selects RX4 yX4_putPlace yX4_putPlace ∈ Tg := List.mem_filter.mpr ⟨List.mem_of_getElem? (i := 15) (by decide +kernel), by decide +kernel⟩
theorem kl_X9_has : Cond.selects RX9 yX9_has yX9_has ∈ Tg := List.mem_filter.mpr ⟨List.mem_of_getElem? (i := 16) (by decide +kernel), by decide +kernel⟩
theorem kl_X4_getPlace : Cond.selects RX4 yX4_getPlace yX4_getPlace ∈ Tg := List.mem_filter.mpr ⟨List.mem_of_getElem? (i := 17) (by decide +kernel), by decide +kernel⟩
theorem kl_X4_tellSize : Cond.selects RX4 yX4_tellSize yX4_tellSize ∈ Tg := List.mem_filter.mpr ⟨List.mem_of_getElem? (i := 18) (by decide +kernel), by decide +kernel⟩
theorem kl_X4_copyPlaces : Cond.selects RX4 yX4_copyPlaces yX4_copyPlaces ∈ Tg := List.mem_filter.mpr ⟨List.mem_of_getElem? (i := 19) (by decide +kernel), by decide +kernel⟩
theorem kl_X4_callMethod : Cond.selects RX4 yX4_callMethod yX4_callMethod ∈ Tg := List.mem_filter.mpr ⟨List.mem_of_getElem? (i := 20) (by decide +kernel), by decide +kernel⟩
theorem kl_X4_goOn : Cond.selects RX4 yX4_goOn yX4_goOn ∈ Tg := List.mem_filter.mpr ⟨List.mem_of_getElem? (i := 21) (by decide +kernel), by decide +kernel⟩
theorem kl_X4_leave : Cond.selects RX4 yX4_leave yX4_leave ∈ Tg := List.mem_filter.mpr ⟨List.mem_of_getElem? (i := 22) (by decide +kernel), by decide +kernel⟩
theorem kl_X4_cleanFrame : Cond.selects RX4 yX4_cleanFrame yX4_cleanFrame ∈ Tg := List.mem_filter.mpr ⟨List.mem_of_getElem? (i := 23) (by decide +kernel), by decide +kernel⟩
theorem kl_X4_giveOut : Cond.selects RX4 yX4_giveOut yX4_giveOut ∈ Tg := List.mem_filter.mpr ⟨List.mem_of_getElem? (i := 24) (by decide +kernel), by decide +kernel⟩
theorem kl_X4_answerThrow : Cond.selects RX4 yX4_answerThrow yX4_answerThrow ∈ Tg := List.mem_filter.mpr ⟨List.mem_of_getElem? (i := 25) (by decide +kernel), by decide +kernel⟩
theorem kl_X4_throwOut : Cond.selects RX4 yX4_throwOut yX4_throwOut ∈ Tg := List.mem_filter.mpr ⟨List.mem_of_getElem? (i := 26) (by decide +kernel), by decide +kernel⟩
theorem kl_X4_cleanStopped : Cond.selects RX4 yX4_cleanStopped yX4_cleanStopped ∈ Tg := List.mem_filter.mpr ⟨List.mem_of_getElem? (i := 27) (by decide +kernel), by decide +kernel⟩
theorem kl_X11_counts : Cond.selects RX11 yX11_counts yX11_counts ∈ Tg := List.mem_filter.mpr ⟨List.mem_of_getElem? (i := 28) (by decide +kernel), by decide +kernel⟩
theorem kl_X11_take : Cond.selects RX11 yX11_take yX11_take ∈ Tg := List.mem_filter.mpr ⟨List.mem_of_getElem? (i := 29) (by decide +kernel), by decide +kernel⟩
theorem kl_X11_over : Cond.selects RX11 yX11_over yX11_over ∈ Tg := List.mem_filter.mpr ⟨List.mem_of_getElem? (i := 30) (by decide +kernel), by decide +kernel⟩
theorem kl_X11_makes : Cond.selects RX11 yX11_makes yX11_makes ∈ Tg := List.mem_filter.mpr ⟨List.mem_of_getElem? (i := 31) (by decide +kernel), by decide +kernel⟩
theorem kl_X11_cleanOn : Cond.selects RX11 yX11_cleanOn yX11_cleanOn ∈ Tg := List.mem_filter.mpr ⟨List.mem_of_getElem? (i := 32) (by decide +kernel), by decide +kernel⟩
theorem kl_X11_runsClean : Cond.selects RX11 yX11_runsClean yX11_runsClean ∈ Tg := List.mem_filter.mpr ⟨List.mem_of_getElem? (i := 33) (by decide +kernel), by decide +kernel⟩
theorem kl_X11_leaveOn : Cond.selects RX11 yX11_leaveOn yX11_leaveOn ∈ Tg := List.mem_filter.mpr ⟨List.mem_of_getElem? (i := 34) (by decide +kernel), by decide +kernel⟩
theorem kl_X11_throwOn : Cond.selects RX11 yX11_throwOn yX11_throwOn ∈ Tg := List.mem_filter.mpr ⟨List.mem_of_getElem? (i := 35) (by decide +kernel), by decide +kernel⟩
theorem kl_X11_raise : Cond.selects RX11 yX11_raise yX11_raise ∈ Tg := List.mem_filter.mpr ⟨List.mem_of_getElem? (i := 36) (by decide +kernel), by decide +kernel⟩
theorem kl_X11_leave : Cond.selects RX11 yX11_leave yX11_leave ∈ Tg := List.mem_filter.mpr ⟨List.mem_of_getElem? (i := 37) (by decide +kernel), by decide +kernel⟩
theorem kl_X11_thrown : Cond.selects RX11 yX11_thrown yX11_thrown ∈ Tg := List.mem_filter.mpr ⟨List.mem_of_getElem? (i := 38) (by decide +kernel), by decide +kernel⟩
theorem kl_X11_gave : Cond.selects RX11 yX11_gave yX11_gave ∈ Tg := List.mem_filter.mpr ⟨List.mem_of_getElem? (i := 39) (by decide +kernel), by decide +kernel⟩
theorem kl_X11_step : Cond.selects RX11 yX11_step yX11_step ∈ Tg := List.mem_filter.mpr ⟨List.mem_of_getElem? (i := 40) (by decide +kernel), by decide +kernel⟩
theorem kl_X11_goes : Cond.selects RX11 yX11_goes yX11_goes ∈ Tg := List.mem_filter.mpr ⟨List.mem_of_getElem? (i := 41) (by decide +kernel), by decide +kernel⟩
theorem kl_X11_get : Cond.selects RX11 yX11_get yX11_get ∈ Tg := List.mem_filter.mpr ⟨List.mem_of_getElem? (i := 42) (by decide +kernel), by decide +kernel⟩
theorem kl_X11_news : Cond.selects RX11 yX11_news yX11_news ∈ Tg := List.mem_filter.mpr ⟨List.mem_of_getElem? (i := 43) (by decide +kernel), by decide +kernel⟩
theorem kl_X11_begins : Cond.selects RX11 yX11_begins yX11_begins ∈ Tg := List.mem_filter.mpr ⟨List.mem_of_getElem? (i := 44) (by decide +kernel), by decide +kernel⟩
theorem kl_X11_reckons : Cond.selects RX11 yX11_reckons yX11_reckons ∈ Tg := List.mem_filter.mpr ⟨List.mem_of_getElem? (i := 45) (by decide +kernel), by decide +kernel⟩
theorem kl_X11_put : Cond.selects RX11 yX11_put yX11_put ∈ Tg := List.mem_filter.mpr ⟨List.mem_of_getElem? (i := 46) (by decide +kernel), by decide +kernel⟩
theorem kl_X11_rows : Cond.selects RX11 yX11_rows yX11_rows ∈ Tg := List.mem_filter.mpr ⟨List.mem_of_getElem? (i := 47) (by decide +kernel), by decide +kernel⟩
theorem kl_X11_look : Cond.selects RX11 yX11_look yX11_look ∈ Tg := List.mem_filter.mpr ⟨List.mem_of_getElem? (i := 48) (by decide +kernel), by decide +kernel⟩
theorem kl_X11_copies : Cond.selects RX11 yX11_copies yX11_copies ∈ Tg := List.mem_filter.mpr ⟨List.mem_of_getElem? (i := 49) (by decide +kernel), by decide +kernel⟩
theorem kI_L : Cond.initialized RL ∈ Tg := List.mem_filter.mpr ⟨List.mem_of_getElem? (i := 50) (by decide +kernel), by decide +kernel⟩
theorem kI_X10 : Cond.initialized RX10 ∈ Tg := List.mem_filter.mpr ⟨List.mem_of_getElem? (i := 51) (by decide +kernel), by decide +kernel⟩
theorem kI_X4 : Cond.initialized RX4 ∈ Tg := List.mem_filter.mpr ⟨List.mem_of_getElem? (i := 52) (by decide +kernel), by decide +kernel⟩
theorem kI_X8 : Cond.initialized RX8 ∈ Tg := List.mem_filter.mpr ⟨List.mem_of_getElem? (i := 53) (by decide +kernel), by decide +kernel⟩
theorem kI_X5 : Cond.initialized RX5 ∈ Tg := List.mem_filter.mpr ⟨List.mem_of_getElem? (i := 54) (by decide +kernel), by decide +kernel⟩
theorem kI_X9 : Cond.initialized RX9 ∈ Tg := List.mem_filter.mpr ⟨List.mem_of_getElem? (i := 55) (by decide +kernel), by decide +kernel⟩
theorem kI_X6 : Cond.initialized RX6 ∈ Tg := List.mem_filter.mpr ⟨List.mem_of_getElem? (i := 56) (by decide +kernel), by decide +kernel⟩
theorem kI_Jxa1e45 : Cond.initialized RJxa1e45 ∈ Tg := List.mem_filter.mpr ⟨List.mem_of_getElem? (i := 57) (by decide +kernel), by decide +kernel⟩
theorem kI_Jxc12de : Cond.initialized RJxc12de ∈ Tg := List.mem_filter.mpr ⟨List.mem_of_getElem? (i := 58) (by decide +kernel), by decide +kernel⟩
theorem kI_Jx4a65c : Cond.initialized RJx4a65c ∈ Tg := List.mem_filter.mpr ⟨List.mem_of_getElem? (i := 59) (by decide +kernel), by decide +kernel⟩
theorem kI_X2 : Cond.initialized RX2 ∈ Tg := List.mem_filter.mpr ⟨List.mem_of_getElem? (i := 60) (by decide +kernel), by decide +kernel⟩
theorem kI_X11 : Cond.initialized RX11 ∈ Tg := List.mem_filter.mpr ⟨List.mem_of_getElem? (i := 61) (by decide +kernel), by decide +kernel⟩
theorem kI_Jxe7f93 : Cond.initialized RJxe7f93 ∈ Tg := List.mem_filter.mpr ⟨List.mem_of_getElem? (i := 62) (by decide +kernel), by decide +kernel⟩
theorem kI_X0 : Cond.initialized RX0 ∈ Tg := List.mem_filter.mpr ⟨List.mem_of_getElem? (i := 63) (by decide +kernel), by decide +kernel⟩
theorem kI_J8 : Cond.initialized RJ8 ∈ Tg := List.mem_filter.mpr ⟨List.mem_of_getElem? (i := 64) (by decide +kernel), by decide +kernel⟩
theorem kI_J9 : Cond.initialized RJ9 ∈ Tg := List.mem_filter.mpr ⟨List.mem_of_getElem? (i := 65) (by decide +kernel), by decide +kernel⟩
theorem kI_J7 : Cond.initialized RJ7 ∈ Tg := List.mem_filter.mpr ⟨List.mem_of_getElem? (i := 66) (by decide +kernel), by decide +kernel⟩
theorem kI_J10 : Cond.initialized RJ10 ∈ Tg := List.mem_filter.mpr ⟨List.mem_of_getElem? (i := 67) (by decide +kernel), by decide +kernel⟩
theorem kI_X3 : Cond.initialized RX3 ∈ Tg := List.mem_filter.mpr ⟨List.mem_of_getElem? (i := 68) (by decide +kernel), by decide +kernel⟩
theorem kI_X1 : Cond.initialized RX1 ∈ Tg := List.mem_filter.mpr ⟨List.mem_of_getElem? (i := 69) (by decide +kernel), by decide +kernel⟩
theorem kI_Jx29ce0 : Cond.initialized RJx29ce0 ∈ Tg := List.mem_filter.mpr ⟨List.mem_of_getElem? (i := 70) (by decide +kernel), by decide +kernel⟩
theorem kI_X7 : Cond.initialized RX7 ∈ Tg := List.mem_filter.mpr ⟨List.mem_of_getElem? (i := 71) (by decide +kernel), by decide +kernel⟩
theorem kI_J15 : Cond.initialized RJ15 ∈ Tg := List.mem_filter.mpr ⟨List.mem_of_getElem? (i := 72) (by decide +kernel), by decide +kernel⟩
theorem kI_J3 : Cond.initialized RJ3 ∈ Tg := List.mem_filter.mpr ⟨List.mem_of_getElem? (i := 73) (by decide +kernel), by decide +kernel⟩
theorem kC_L_7 : Cond.classLink RL 7 RX10 ∈ Tg := List.mem_filter.mpr ⟨List.mem_of_getElem? (i := 74) (by decide +kernel), by decide +kernel⟩
theorem kN_X10 : Cond.instantiable RX10 2 ∈ Tg := List.mem_filter.mpr ⟨List.mem_of_getElem? (i := 75) (by decide +kernel), by decide +kernel⟩
theorem km_L_9 : Cond.methodLink RL 9 yX10_init ∈ Tg := List.mem_filter.mpr ⟨List.mem_of_getElem? (i := 76) (by decide +kernel), by decide +kernel⟩
theorem ki_X10_init : Cond.instanceMethod yX10_init ∈ Tg := List.mem_filter.mpr ⟨List.mem_of_getElem? (i := 77) (by decide +kernel), by decide +kernel⟩
theorem kc_X10_init : Cond.code yX10_init cX10_init 1 none ∈ Tg := List.mem_filter.mpr ⟨List.mem_of_getElem? (i := 78) (by decide +kernel), by decide +kernel⟩
theorem km_X10_3 : Cond.methodLink RX10 3 objectInit ∈ Tg := List.mem_filter.mpr ⟨List.mem_of_getElem? (i := 79) (by decide +kernel), by decide +kernel⟩
theorem ki_objectInit : Cond.instanceMethod objectInit ∈ Tg := List.mem_filter.mpr ⟨List.mem_of_getElem? (i := 80) (by decide +kernel), by decide +kernel⟩
theorem kc_objectInit : Cond.code objectInit ⟨#[0xb1]⟩ 1 none ∈ Tg := List.mem_filter.mpr ⟨List.mem_of_getElem? (i := 81) (by decide +kernel), by decide +kernel⟩
theorem kC_X10_9 : Cond.classLink RX10 9 RX4 ∈ Tg := List.mem_filter.mpr ⟨List.mem_of_getElem? (i := 82) (by decide +kernel), by decide +kernel⟩
theorem kN_X4 : Cond.instantiable RX4 7 ∈ Tg := List.mem_filter.mpr ⟨List.mem_of_getElem? (i := 83) (by decide +kernel), by decide +kernel⟩
theorem km_X10_11 : Cond.methodLink RX10 11 yX4_init ∈ Tg := List.mem_filter.mpr ⟨List.mem_of_getElem? (i := 84) (by decide +kernel), by decide +kernel⟩
theorem ki_X4_init : Cond.instanceMethod yX4_init ∈ Tg := List.mem_filter.mpr ⟨List.mem_of_getElem? (i := 85) (by decide +kernel), by decide +kernel⟩
theorem kc_X4_init : Cond.code yX4_init cX4_init 2 none ∈ Tg := List.mem_filter.mpr ⟨List.mem_of_getElem? (i := 86) (by decide +kernel), by decide +kernel⟩
theorem km_X4_3 : Cond.methodLink RX4 3 objectInit ∈ Tg := List.mem_filter.mpr ⟨List.mem_of_getElem? (i := 87) (by decide +kernel), by decide +kernel⟩
theorem kC_X4_9 : Cond.classLink RX4 9 RX8 ∈ Tg := List.mem_filter.mpr ⟨List.mem_of_getElem? (i := 88) (by decide +kernel), by decide +kernel⟩
theorem kN_X8 : Cond.instantiable RX8 7 ∈ Tg := List.mem_filter.mpr ⟨List.mem_of_getElem? (i := 89) (by decide +kernel), by decide +kernel⟩
theorem ki_X8_init : Cond.instanceMethod yX8_init ∈ Tg := List.mem_filter.mpr ⟨List.mem_of_getElem? (i := 91) (by decide +kernel), by decide +kernel⟩
theorem kc_X8_init : Cond.code yX8_init cX8_init 1 none ∈ Tg := List.mem_filter.mpr ⟨List.mem_of_getElem? (i := 92) (by decide +kernel), by decide +kernel⟩
theorem km_X8_3 : Cond.methodLink RX8 3 objectInit ∈ Tg := List.mem_filter.mpr ⟨List.mem_of_getElem? (i := 93) (by decide +kernel), by decide +kernel⟩
theorem kf_X8_15 : Cond.fieldLink RX8 15 "StepBudgets$Report" "gave" "I" ∈ Tg := List.mem_filter.mpr ⟨List.mem_of_getElem? (i := 94) (by decide +kernel), by decide +kernel⟩
theorem kf_X4_69 : Cond.fieldLink RX4 69 "StepBudgets$Report" "gave" "I" ∈ Tg := List.mem_filter.mpr ⟨List.mem_of_getElem? (i := 95) (by decide +kernel), by decide +kernel⟩
theorem kf_X10_83 : Cond.fieldLink RX10 83 "StepBudgets$Report" "gave" "I" ∈ Tg := List.mem_filter.mpr ⟨List.mem_of_getElem? (i := 96) (by decide +kernel), by decide +kernel⟩
theorem kf_X8_19 : Cond.fieldLink RX8 19 "StepBudgets$Report" "threw" "I" ∈ Tg := List.mem_filter.mpr ⟨List.mem_of_getElem? (i := 97) (by decide +kernel), by decide +kernel⟩
theorem kf_X4_78 : Cond.fieldLink RX4 78 "StepBudgets$Report" "threw" "I" ∈ Tg := List.mem_filter.mpr ⟨List.mem_of_getElem? (i := 98) (by decide +kernel), by decide +kernel⟩
theorem kf_X10_88 : Cond.fieldLink RX10 88 "StepBudgets$Report" "threw" "I" ∈ Tg := List.mem_filter.mpr ⟨List.mem_of_getElem? (i := 99) (by decide +kernel), by decide +kernel⟩
theorem kf_X8_22 : Cond.fieldLink RX8 22 "StepBudgets$Report" "frames" "I" ∈ Tg := List.mem_filter.mpr ⟨List.mem_of_getElem? (i := 100) (by decide +kernel), by decide +kernel⟩
theorem kf_X10_103 : Cond.fieldLink RX10 103 "StepBudgets$Report" "frames" "I" ∈ Tg := List.mem_filter.mpr ⟨List.mem_of_getElem? (i := 101) (by decide +kernel), by decide +kernel⟩
theorem kf_X8_25 : Cond.fieldLink RX8 25 "StepBudgets$Report" "cleans" "I" ∈ Tg := List.mem_filter.mpr ⟨List.mem_of_getElem? (i := 102) (by decide +kernel), by decide +kernel⟩
theorem kf_X10_106 : Cond.fieldLink RX10 106 "StepBudgets$Report" "cleans" "I" ∈ Tg := List.mem_filter.mpr ⟨List.mem_of_getElem? (i := 103) (by decide +kernel), by decide +kernel⟩
theorem kf_X8_28 : Cond.fieldLink RX8 28 "StepBudgets$Report" "guards" "I" ∈ Tg := List.mem_filter.mpr ⟨List.mem_of_getElem? (i := 104) (by decide +kernel), by decide +kernel⟩
theorem kf_X10_108 : Cond.fieldLink RX10 108 "StepBudgets$Report" "guards" "I" ∈ Tg := List.mem_filter.mpr ⟨List.mem_of_getElem? (i := 105) (by decide +kernel), by decide +kernel⟩
theorem kf_X4_167 : Cond.fieldLink RX4 167 "StepBudgets$Report" "guards" "I" ∈ Tg := List.mem_filter.mpr ⟨List.mem_of_getElem? (i := 106) (by decide +kernel), by decide +kernel⟩
theorem kf_X8_31 : Cond.fieldLink RX8 31 "StepBudgets$Report" "deepest" "I" ∈ Tg := List.mem_filter.mpr ⟨List.mem_of_getElem? (i := 107) (by decide +kernel), by decide +kernel⟩
theorem kf_X10_114 : Cond.fieldLink RX10 114 "StepBudgets$Report" "deepest" "I" ∈ Tg := List.mem_filter.mpr ⟨List.mem_of_getElem? (i := 108) (by decide +kernel), by decide +kernel⟩
theorem kf_X8_11 : Cond.fieldLink RX8 11 "StepBudgets$Report" "kept" "[I" ∈ Tg := List.mem_filter.mpr ⟨List.mem_of_getElem? (i := 109) (by decide +kernel), by decide +kernel⟩
theorem kA_int : Cond.arrayClass .int ∈ Tg := List.mem_filter.mpr ⟨List.mem_of_getElem? (i := 125) (by decide +kernel), by decide +kernel⟩
theorem kC_X4_18 : Cond.classLink RX4 18 RX5 ∈ Tg := List.mem_filter.mpr ⟨List.mem_of_getElem? (i := 126) (by decide +kernel), by decide +kernel⟩
theorem kN_X5 : Cond.instantiable RX5 7 ∈ Tg := List.mem_filter.mpr ⟨List.mem_of_getElem? (i := 127) (by decide +kernel), by decide +kernel⟩
theorem ki_X5_init : Cond.instanceMethod yX5_init ∈ Tg := List.mem_filter.mpr ⟨List.mem_of_getElem? (i := 129) (by decide +kernel), by decide +kernel⟩
theorem kc_X5_init : Cond.code yX5_init cX5_init 1 none ∈ Tg := List.mem_filter.mpr ⟨List.mem_of_getElem? (i := 130) (by decide +kernel), by decide +kernel⟩
theorem km_X5_1 : Cond.methodLink RX5 1 objectInit ∈ Tg := List.mem_filter.mpr ⟨List.mem_of_getElem? (i := 131) (by decide +kernel), by decide +kernel⟩
theorem kf_X5_16 : Cond.fieldLink RX5 16 "StepBudgets$Meter" "inBudget" "I" ∈ Tg := List.mem_filter.mpr ⟨List.mem_of_getElem? (i := 132) (by decide +kernel), by decide +kernel⟩
theorem kf_X10_95 : Cond.fieldLink RX10 95 "StepBudgets$Meter" "inBudget" "I" ∈ Tg := List.mem_filter.mpr ⟨List.mem_of_getElem? (i := 133) (by decide +kernel), by decide +kernel⟩
theorem kf_X5_19 : Cond.fieldLink RX5 19 "StepBudgets$Meter" "inReserve" "I" ∈ Tg := List.mem_filter.mpr ⟨List.mem_of_getElem? (i := 134) (by decide +kernel), by decide +kernel⟩
theorem kf_X10_100 : Cond.fieldLink RX10 100 "StepBudgets$Meter" "inReserve" "I" ∈ Tg := List.mem_filter.mpr ⟨List.mem_of_getElem? (i := 135) (by decide +kernel), by decide +kernel⟩
theorem kf_X5_29 : Cond.fieldLink RX5 29 "StepBudgets$Meter" "overrun" "Z" ∈ Tg := List.mem_filter.mpr ⟨List.mem_of_getElem? (i := 136) (by decide +kernel), by decide +kernel⟩
theorem kf_X10_110 : Cond.fieldLink RX10 110 "StepBudgets$Meter" "overrun" "Z" ∈ Tg := List.mem_filter.mpr ⟨List.mem_of_getElem? (i := 137) (by decide +kernel), by decide +kernel⟩
theorem kf_X5_7 : Cond.fieldLink RX5 7 "StepBudgets$Meter" "budget" "I" ∈ Tg := List.mem_filter.mpr ⟨List.mem_of_getElem? (i := 138) (by decide +kernel), by decide +kernel⟩
theorem kf_X5_13 : Cond.fieldLink RX5 13 "StepBudgets$Meter" "reserve" "I" ∈ Tg := List.mem_filter.mpr ⟨List.mem_of_getElem? (i := 139) (by decide +kernel), by decide +kernel⟩
theorem kf_X5_22 : Cond.fieldLink RX5 22 "StepBudgets$Meter" "throwsBegun" "I" ∈ Tg := List.mem_filter.mpr ⟨List.mem_of_getElem? (i := 140) (by decide +kernel), by decide +kernel⟩
theorem kf_X5_25 : Cond.fieldLink RX5 25 "StepBudgets$Meter" "stopped" "Z" ∈ Tg := List.mem_filter.mpr ⟨List.mem_of_getElem? (i := 141) (by decide +kernel), by decide +kernel⟩
theorem kC_X4_25 : Cond.classLink RX4 25 RX6 ∈ Tg := List.mem_filter.mpr ⟨List.mem_of_getElem? (i := 157) (by decide +kernel), by decide +kernel⟩
theorem kC_X4_31 : Cond.classLink RX4 31 RX9 ∈ Tg := List.mem_filter.mpr ⟨List.mem_of_getElem? (i := 159) (by decide +kernel), by decide +kernel⟩
theorem kN_X9 : Cond.instantiable RX9 6 ∈ Tg := List.mem_filter.mpr ⟨List.mem_of_getElem? (i := 160) (by decide +kernel), by decide +kernel⟩
theorem ki_X9_init : Cond.instanceMethod yX9_init ∈ Tg := List.mem_filter.mpr ⟨List.mem_of_getElem? (i := 162) (by decide +kernel), by decide +kernel⟩
theorem kc_X9_init : Cond.code yX9_init cX9_init 1 none ∈ Tg := List.mem_filter.mpr ⟨List.mem_of_getElem? (i := 163) (by decide +kernel), by decide +kernel⟩
theorem km_X9_5 : Cond.methodLink RX9 5 objectInit ∈ Tg := List.mem_filter.mpr ⟨List.mem_of_getElem? (i := 164) (by decide +kernel), by decide +kernel⟩
theorem kf_X9_11 : Cond.fieldLink RX9 11 "StepBudgets$Rows" "places" "[I" ∈ Tg := List.mem_filter.mpr ⟨List.mem_of_getElem? (i := 165) (by decide +kernel), by decide +kernel⟩
theorem kf_X9_15 : Cond.fieldLink RX9 15 "StepBudgets$Rows" "starts" "[I" ∈ Tg := List.mem_filter.mpr ⟨List.mem_of_getElem? (i := 166) (by decide +kernel), by decide +kernel⟩
theorem kf_X9_18 : Cond.fieldLink RX9 18 "StepBudgets$Rows" "sizes" "[I" ∈ Tg := List.mem_filter.mpr ⟨List.mem_of_getElem? (i := 167) (by decide +kernel), by decide +kernel⟩
theorem kf_X9_21 : Cond.fieldLink RX9 21 "StepBudgets$Rows" "lanes" "[I" ∈ Tg := List.mem_filter.mpr ⟨List.mem_of_getElem? (i := 168) (by decide +kernel), by decide +kernel⟩
theorem kf_X9_24 : Cond.fieldLink RX9 24 "StepBudgets$Rows" "count" "I" ∈ Tg := List.mem_filter.mpr ⟨List.mem_of_getElem? (i := 169) (by decide +kernel), by decide +kernel⟩
theorem kf_X9_28 : Cond.fieldLink RX9 28 "StepBudgets$Rows" "used" "I" ∈ Tg := List.mem_filter.mpr ⟨List.mem_of_getElem? (i := 170) (by decide +kernel), by decide +kernel⟩
theorem kC_X4_38 : Cond.classLink RX4 38 RX2 ∈ Tg := List.mem_filter.mpr ⟨List.mem_of_getElem? (i := 184) (by decide +kernel), by decide +kernel⟩
theorem kN_X6 : Cond.instantiable RX6 3 ∈ Tg := List.mem_filter.mpr ⟨List.mem_of_getElem? (i := 186) (by decide +kernel), by decide +kernel⟩
theorem ki_X6_init : Cond.instanceMethod yX6_init ∈ Tg := List.mem_filter.mpr ⟨List.mem_of_getElem? (i := 188) (by decide +kernel), by decide +kernel⟩
theorem kc_X6_init : Cond.code yX6_init cX6_init 1 none ∈ Tg := List.mem_filter.mpr ⟨List.mem_of_getElem? (i := 189) (by decide +kernel), by decide +kernel⟩
theorem km_X6_3 : Cond.methodLink RX6 3 objectInit ∈ Tg := List.mem_filter.mpr ⟨List.mem_of_getElem? (i := 190) (by decide +kernel), by decide +kernel⟩
theorem kC_X6_9 : Cond.classLink RX6 9 RJx4a65c ∈ Tg := List.mem_filter.mpr ⟨List.mem_of_getElem? (i := 191) (by decide +kernel), by decide +kernel⟩
theorem kN_Jx4a65c : Cond.instantiable RJx4a65c 3 ∈ Tg := List.mem_filter.mpr ⟨List.mem_of_getElem? (i := 192) (by decide +kernel), by decide +kernel⟩
theorem km_X6_11 : Cond.methodLink RX6 11 yJx4a65c_init_da8c8 ∈ Tg := List.mem_filter.mpr ⟨List.mem_of_getElem? (i := 193) (by decide +kernel), by decide +kernel⟩
theorem ki_Jx4a65c_init_da8c8 : Cond.instanceMethod yJx4a65c_init_da8c8 ∈ Tg := List.mem_filter.mpr ⟨List.mem_of_getElem? (i := 194) (by decide +kernel), by decide +kernel⟩
theorem kc_Jx4a65c_init_da8c8 : Cond.code yJx4a65c_init_da8c8 cJx4a65c_init_da8c8 1 none ∈ Tg := List.mem_filter.mpr ⟨List.mem_of_getElem? (i := 195) (by decide +kernel), by decide +kernel⟩
theorem km_Jx4a65c_1 : Cond.methodLink RJx4a65c 1 yJxc12de_init_da8c8 ∈ Tg := List.mem_filter.mpr ⟨List.mem_of_getElem? (i := 196) (by decide +kernel), by decide +kernel⟩
theorem ki_Jxc12de_init_da8c8 : Cond.instanceMethod yJxc12de_init_da8c8 ∈ Tg := List.mem_filter.mpr ⟨List.mem_of_getElem? (i := 197) (by decide +kernel), by decide +kernel⟩
theorem kc_Jxc12de_init_da8c8 : Cond.code yJxc12de_init_da8c8 cJxc12de_init_da8c8 1 none ∈ Tg := List.mem_filter.mpr ⟨List.mem_of_getElem? (i := 198) (by decide +kernel), by decide +kernel⟩
theorem km_Jxc12de_1 : Cond.methodLink RJxc12de 1 yJxa1e45_init_da8c8 ∈ Tg := List.mem_filter.mpr ⟨List.mem_of_getElem? (i := 199) (by decide +kernel), by decide +kernel⟩
theorem ki_Jxa1e45_init_da8c8 : Cond.instanceMethod yJxa1e45_init_da8c8 ∈ Tg := List.mem_filter.mpr ⟨List.mem_of_getElem? (i := 200) (by decide +kernel), by decide +kernel⟩
theorem kc_Jxa1e45_init_da8c8 : Cond.code yJxa1e45_init_da8c8 cJxa1e45_init_da8c8 1 none ∈ Tg := List.mem_filter.mpr ⟨List.mem_of_getElem? (i := 201) (by decide +kernel), by decide +kernel⟩
theorem km_Jxa1e45_1 : Cond.methodLink RJxa1e45 1 objectInit ∈ Tg := List.mem_filter.mpr ⟨List.mem_of_getElem? (i := 202) (by decide +kernel), by decide +kernel⟩
theorem kf_Jx4a65c_39 : Cond.fieldLink RJx4a65c 39 "java/util/ArrayList" "DEFAULTCAPACITY_EMPTY_ELEMENTDATA" "[Ljava/lang/Object;" ∈ Tg := List.mem_filter.mpr ⟨List.mem_of_getElem? (i := 203) (by decide +kernel), by decide +kernel⟩
theorem kf_Jx4a65c_9 : Cond.fieldLink RJx4a65c 9 "java/util/ArrayList" "elementData" "[Ljava/lang/Object;" ∈ Tg := List.mem_filter.mpr ⟨List.mem_of_getElem? (i := 205) (by decide +kernel), by decide +kernel⟩
theorem kf_Jx4a65c_48 : Cond.fieldLink RJx4a65c 48 "java/util/ArrayList" "size" "I" ∈ Tg := List.mem_filter.mpr ⟨List.mem_of_getElem? (i := 206) (by decide +kernel), by decide +kernel⟩
theorem kf_Jxc12de_7 : Cond.fieldLink RJxc12de 7 "java/util/AbstractList" "modCount" "I" ∈ Tg := List.mem_filter.mpr ⟨List.mem_of_getElem? (i := 207) (by decide +kernel), by decide +kernel⟩
theorem kf_Jx4a65c_63 : Cond.fieldLink RJx4a65c 63 "java/util/ArrayList" "modCount" "I" ∈ Tg := List.mem_filter.mpr ⟨List.mem_of_getElem? (i := 208) (by decide +kernel), by decide +kernel⟩
theorem kf_X6_12 : Cond.fieldLink RX6 12 "StepBudgets$Method" "acts" "Ljava/util/ArrayList;" ∈ Tg := List.mem_filter.mpr ⟨List.mem_of_getElem? (i := 217) (by decide +kernel), by decide +kernel⟩
theorem kf_X10_34 : Cond.fieldLink RX10 34 "StepBudgets$Method" "acts" "Ljava/util/ArrayList;" ∈ Tg := List.mem_filter.mpr ⟨List.mem_of_getElem? (i := 218) (by decide +kernel), by decide +kernel⟩
theorem kf_X4_107 : Cond.fieldLink RX4 107 "StepBudgets$Method" "acts" "Ljava/util/ArrayList;" ∈ Tg := List.mem_filter.mpr ⟨List.mem_of_getElem? (i := 219) (by decide +kernel), by decide +kernel⟩
theorem kf_X6_18 : Cond.fieldLink RX6 18 "StepBudgets$Method" "guards" "Ljava/util/ArrayList;" ∈ Tg := List.mem_filter.mpr ⟨List.mem_of_getElem? (i := 220) (by decide +kernel), by decide +kernel⟩
theorem kf_X10_56 : Cond.fieldLink RX10 56 "StepBudgets$Method" "guards" "Ljava/util/ArrayList;" ∈ Tg := List.mem_filter.mpr ⟨List.mem_of_getElem? (i := 221) (by decide +kernel), by decide +kernel⟩
theorem kf_X4_170 : Cond.fieldLink RX4 170 "StepBudgets$Method" "guards" "Ljava/util/ArrayList;" ∈ Tg := List.mem_filter.mpr ⟨List.mem_of_getElem? (i := 222) (by decide +kernel), by decide +kernel⟩
theorem kf_X6_21 : Cond.fieldLink RX6 21 "StepBudgets$Method" "cleans" "Ljava/util/ArrayList;" ∈ Tg := List.mem_filter.mpr ⟨List.mem_of_getElem? (i := 223) (by decide +kernel), by decide +kernel⟩
theorem kf_X10_64 : Cond.fieldLink RX10 64 "StepBudgets$Method" "cleans" "Ljava/util/ArrayList;" ∈ Tg := List.mem_filter.mpr ⟨List.mem_of_getElem? (i := 224) (by decide +kernel), by decide +kernel⟩
theorem kf_X4_180 : Cond.fieldLink RX4 180 "StepBudgets$Method" "cleans" "Ljava/util/ArrayList;" ∈ Tg := List.mem_filter.mpr ⟨List.mem_of_getElem? (i := 225) (by decide +kernel), by decide +kernel⟩
theorem kN_X2 : Cond.instantiable RX2 6 ∈ Tg := List.mem_filter.mpr ⟨List.mem_of_getElem? (i := 233) (by decide +kernel), by decide +kernel⟩
theorem ki_X2_init : Cond.instanceMethod yX2_init ∈ Tg := List.mem_filter.mpr ⟨List.mem_of_getElem? (i := 235) (by decide +kernel), by decide +kernel⟩
theorem kc_X2_init : Cond.code yX2_init cX2_init 1 none ∈ Tg := List.mem_filter.mpr ⟨List.mem_of_getElem? (i := 236) (by decide +kernel), by decide +kernel⟩
theorem km_X2_3 : Cond.methodLink RX2 3 objectInit ∈ Tg := List.mem_filter.mpr ⟨List.mem_of_getElem? (i := 237) (by decide +kernel), by decide +kernel⟩
theorem kf_X2_9 : Cond.fieldLink RX2 9 "StepBudgets$Frame" "numbers" "[I" ∈ Tg := List.mem_filter.mpr ⟨List.mem_of_getElem? (i := 238) (by decide +kernel), by decide +kernel⟩
theorem kf_X4_176 : Cond.fieldLink RX4 176 "StepBudgets$Frame" "numbers" "[I" ∈ Tg := List.mem_filter.mpr ⟨List.mem_of_getElem? (i := 239) (by decide +kernel), by decide +kernel⟩
theorem kf_X2_15 : Cond.fieldLink RX2 15 "StepBudgets$Frame" "rows" "[I" ∈ Tg := List.mem_filter.mpr ⟨List.mem_of_getElem? (i := 240) (by decide +kernel), by decide +kernel⟩
theorem kf_X4_198 : Cond.fieldLink RX4 198 "StepBudgets$Frame" "rows" "[I" ∈ Tg := List.mem_filter.mpr ⟨List.mem_of_getElem? (i := 241) (by decide +kernel), by decide +kernel⟩
theorem kf_X2_24 : Cond.fieldLink RX2 24 "StepBudgets$Frame" "method" "I" ∈ Tg := List.mem_filter.mpr ⟨List.mem_of_getElem? (i := 242) (by decide +kernel), by decide +kernel⟩
theorem kf_X4_104 : Cond.fieldLink RX4 104 "StepBudgets$Frame" "method" "I" ∈ Tg := List.mem_filter.mpr ⟨List.mem_of_getElem? (i := 243) (by decide +kernel), by decide +kernel⟩
theorem kf_X2_28 : Cond.fieldLink RX2 28 "StepBudgets$Frame" "at" "I" ∈ Tg := List.mem_filter.mpr ⟨List.mem_of_getElem? (i := 244) (by decide +kernel), by decide +kernel⟩
theorem kf_X4_118 : Cond.fieldLink RX4 118 "StepBudgets$Frame" "at" "I" ∈ Tg := List.mem_filter.mpr ⟨List.mem_of_getElem? (i := 245) (by decide +kernel), by decide +kernel⟩
theorem kf_X2_31 : Cond.fieldLink RX2 31 "StepBudgets$Frame" "next" "I" ∈ Tg := List.mem_filter.mpr ⟨List.mem_of_getElem? (i := 246) (by decide +kernel), by decide +kernel⟩
theorem kf_X4_131 : Cond.fieldLink RX4 131 "StepBudgets$Frame" "next" "I" ∈ Tg := List.mem_filter.mpr ⟨List.mem_of_getElem? (i := 247) (by decide +kernel), by decide +kernel⟩
theorem kf_X2_34 : Cond.fieldLink RX2 34 "StepBudgets$Frame" "cleanedBy" "I" ∈ Tg := List.mem_filter.mpr ⟨List.mem_of_getElem? (i := 248) (by decide +kernel), by decide +kernel⟩
theorem kf_X4_134 : Cond.fieldLink RX4 134 "StepBudgets$Frame" "cleanedBy" "I" ∈ Tg := List.mem_filter.mpr ⟨List.mem_of_getElem? (i := 249) (by decide +kernel), by decide +kernel⟩
theorem kf_X4_12 : Cond.fieldLink RX4 12 "StepBudgets$Machine" "report" "LStepBudgets$Report;" ∈ Tg := List.mem_filter.mpr ⟨List.mem_of_getElem? (i := 263) (by decide +kernel), by decide +kernel⟩
theorem kf_X10_79 : Cond.fieldLink RX10 79 "StepBudgets$Machine" "report" "LStepBudgets$Report;" ∈ Tg := List.mem_filter.mpr ⟨List.mem_of_getElem? (i := 264) (by decide +kernel), by decide +kernel⟩
theorem kf_X4_21 : Cond.fieldLink RX4 21 "StepBudgets$Machine" "meter" "LStepBudgets$Meter;" ∈ Tg := List.mem_filter.mpr ⟨List.mem_of_getElem? (i := 265) (by decide +kernel), by decide +kernel⟩
theorem kf_X10_91 : Cond.fieldLink RX10 91 "StepBudgets$Machine" "meter" "LStepBudgets$Meter;" ∈ Tg := List.mem_filter.mpr ⟨List.mem_of_getElem? (i := 266) (by decide +kernel), by decide +kernel⟩
theorem kf_X4_27 : Cond.fieldLink RX4 27 "StepBudgets$Machine" "methods" "[LStepBudgets$Method;" ∈ Tg := List.mem_filter.mpr ⟨List.mem_of_getElem? (i := 267) (by decide +kernel), by decide +kernel⟩
theorem kf_X10_30 : Cond.fieldLink RX10 30 "StepBudgets$Machine" "methods" "[LStepBudgets$Method;" ∈ Tg := List.mem_filter.mpr ⟨List.mem_of_getElem? (i := 268) (by decide +kernel), by decide +kernel⟩
theorem kf_X4_34 : Cond.fieldLink RX4 34 "StepBudgets$Machine" "rows" "LStepBudgets$Rows;" ∈ Tg := List.mem_filter.mpr ⟨List.mem_of_getElem? (i := 269) (by decide +kernel), by decide +kernel⟩
theorem kf_X4_40 : Cond.fieldLink RX4 40 "StepBudgets$Machine" "frames" "[LStepBudgets$Frame;" ∈ Tg := List.mem_filter.mpr ⟨List.mem_of_getElem? (i := 270) (by decide +kernel), by decide +kernel⟩
theorem kf_X4_65 : Cond.fieldLink RX4 65 "StepBudgets$Machine" "given" "I" ∈ Tg := List.mem_filter.mpr ⟨List.mem_of_getElem? (i := 271) (by decide +kernel), by decide +kernel⟩
theorem kf_X4_75 : Cond.fieldLink RX4 75 "StepBudgets$Machine" "thrown" "I" ∈ Tg := List.mem_filter.mpr ⟨List.mem_of_getElem? (i := 272) (by decide +kernel), by decide +kernel⟩
theorem kf_X10_12 : Cond.fieldLink RX10 12 "StepBudgets" "machine" "LStepBudgets$Machine;" ∈ Tg := List.mem_filter.mpr ⟨List.mem_of_getElem? (i := 288) (by decide +kernel), by decide +kernel⟩
theorem kf_X10_16 : Cond.fieldLink RX10 16 "StepBudgets" "reserveSteps" "I" ∈ Tg := List.mem_filter.mpr ⟨List.mem_of_getElem? (i := 289) (by decide +kernel), by decide +kernel⟩
theorem km_L_13 : Cond.methodLink RL 13 yX10_act ∈ Tg := List.mem_filter.mpr ⟨List.mem_of_getElem? (i := 295) (by decide +kernel), by decide +kernel⟩
theorem ki_X10_act : Cond.instanceMethod yX10_act ∈ Tg := List.mem_filter.mpr ⟨List.mem_of_getElem? (i := 296) (by decide +kernel), by decide +kernel⟩
theorem kl_X10_act : Cond.selects RX10 yX10_act yX10_act ∈ Tg := List.mem_filter.mpr ⟨List.mem_of_getElem? (i := 297) (by decide +kernel), by decide +kernel⟩
theorem kc_X10_act : Cond.code yX10_act cX10_act 8 (some .int) ∈ Tg := List.mem_filter.mpr ⟨List.mem_of_getElem? (i := 298) (by decide +kernel), by decide +kernel⟩
theorem km_X10_20 : Cond.methodLink RX10 20 yX10_within ∈ Tg := List.mem_filter.mpr ⟨List.mem_of_getElem? (i := 299) (by decide +kernel), by decide +kernel⟩
theorem ks_X10_within : Cond.static yX10_within ∈ Tg := List.mem_filter.mpr ⟨List.mem_of_getElem? (i := 300) (by decide +kernel), by decide +kernel⟩
theorem kc_X10_within : Cond.code yX10_within cX10_within 2 (some .boolean) ∈ Tg := List.mem_filter.mpr ⟨List.mem_of_getElem? (i := 301) (by decide +kernel), by decide +kernel⟩
theorem km_X10_24 : Cond.methodLink RX10 24 yX0_isAsTold ∈ Tg := List.mem_filter.mpr ⟨List.mem_of_getElem? (i := 302) (by decide +kernel), by decide +kernel⟩
theorem ks_X0_isAsTold : Cond.static yX0_isAsTold ∈ Tg := List.mem_filter.mpr ⟨List.mem_of_getElem? (i := 303) (by decide +kernel), by decide +kernel⟩
theorem kc_X0_isAsTold : Cond.code yX0_isAsTold cX0_isAsTold 5 (some .boolean) ∈ Tg := List.mem_filter.mpr ⟨List.mem_of_getElem? (i := 304) (by decide +kernel), by decide +kernel⟩
theorem kf_X0_31 : Cond.fieldLink RX0 31 "StepBudgets$Act" "ENDS_A" "[I" ∈ Tg := List.mem_filter.mpr ⟨List.mem_of_getElem? (i := 306) (by decide +kernel), by decide +kernel⟩
theorem km_X0_35 : Cond.methodLink RX0 35 yX0_fits ∈ Tg := List.mem_filter.mpr ⟨List.mem_of_getElem? (i := 308) (by decide +kernel), by decide +kernel⟩
theorem ks_X0_fits : Cond.static yX0_fits ∈ Tg := List.mem_filter.mpr ⟨List.mem_of_getElem? (i := 309) (by decide +kernel), by decide +kernel⟩
theorem kc_X0_fits : Cond.code yX0_fits cX0_fits 2 (some .boolean) ∈ Tg := List.mem_filter.mpr ⟨List.mem_of_getElem? (i := 310) (by decide +kernel), by decide +kernel⟩
theorem kf_X0_38 : Cond.fieldLink RX0 38 "StepBudgets$Act" "ENDS_B" "[I" ∈ Tg := List.mem_filter.mpr ⟨List.mem_of_getElem? (i := 311) (by decide +kernel), by decide +kernel⟩
theorem kf_X0_41 : Cond.fieldLink RX0 41 "StepBudgets$Act" "ENDS_C" "[I" ∈ Tg := List.mem_filter.mpr ⟨List.mem_of_getElem? (i := 313) (by decide +kernel), by decide +kernel⟩
theorem kf_X0_44 : Cond.fieldLink RX0 44 "StepBudgets$Act" "ENDS_D" "[I" ∈ Tg := List.mem_filter.mpr ⟨List.mem_of_getElem? (i := 315) (by decide +kernel), by decide +kernel⟩
theorem km_X10_40 : Cond.methodLink RX10 40 yJx4a65c_size_8abf5 ∈ Tg := List.mem_filter.mpr ⟨List.mem_of_getElem? (i := 317) (by decide +kernel), by decide +kernel⟩
theorem ki_Jx4a65c_size_8abf5 : Cond.instanceMethod yJx4a65c_size_8abf5 ∈ Tg := List.mem_filter.mpr ⟨List.mem_of_getElem? (i := 318) (by decide +kernel), by decide +kernel⟩
theorem kl_Jx4a65c_size_8abf5 : Cond.selects RJx4a65c yJx4a65c_size_8abf5 yJx4a65c_size_8abf5 ∈ Tg := List.mem_filter.mpr ⟨List.mem_of_getElem? (i := 319) (by decide +kernel), by decide +kernel⟩
theorem kc_Jx4a65c_size_8abf5 : Cond.code yJx4a65c_size_8abf5 cJx4a65c_size_8abf5 1 (some .int) ∈ Tg := List.mem_filter.mpr ⟨List.mem_of_getElem? (i := 320) (by decide +kernel), by decide +kernel⟩
theorem kC_X10_25 : Cond.classLink RX10 25 RX0 ∈ Tg := List.mem_filter.mpr ⟨List.mem_of_getElem? (i := 321) (by decide +kernel), by decide +kernel⟩
theorem kN_X0 : Cond.instantiable RX0 5 ∈ Tg := List.mem_filter.mpr ⟨List.mem_of_getElem? (i := 322) (by decide +kernel), by decide +kernel⟩
theorem ki_X0_init : Cond.instanceMethod yX0_init ∈ Tg := List.mem_filter.mpr ⟨List.mem_of_getElem? (i := 324) (by decide +kernel), by decide +kernel⟩
theorem kc_X0_init : Cond.code yX0_init cX0_init 6 none ∈ Tg := List.mem_filter.mpr ⟨List.mem_of_getElem? (i := 325) (by decide +kernel), by decide +kernel⟩
theorem km_X0_3 : Cond.methodLink RX0 3 yJxe7f93_init_da8c8 ∈ Tg := List.mem_filter.mpr ⟨List.mem_of_getElem? (i := 326) (by decide +kernel), by decide +kernel⟩
theorem ki_Jxe7f93_init_da8c8 : Cond.instanceMethod yJxe7f93_init_da8c8 ∈ Tg := List.mem_filter.mpr ⟨List.mem_of_getElem? (i := 327) (by decide +kernel), by decide +kernel⟩
theorem kc_Jxe7f93_init_da8c8 : Cond.code yJxe7f93_init_da8c8 cJxe7f93_init_da8c8 1 none ∈ Tg := List.mem_filter.mpr ⟨List.mem_of_getElem? (i := 328) (by decide +kernel), by decide +kernel⟩
theorem km_Jxe7f93_1 : Cond.methodLink RJxe7f93 1 objectInit ∈ Tg := List.mem_filter.mpr ⟨List.mem_of_getElem? (i := 329) (by decide +kernel), by decide +kernel⟩
theorem kf_X0_9 : Cond.fieldLink RX0 9 "StepBudgets$Act" "kind" "I" ∈ Tg := List.mem_filter.mpr ⟨List.mem_of_getElem? (i := 330) (by decide +kernel), by decide +kernel⟩
theorem kf_X0_15 : Cond.fieldLink RX0 15 "StepBudgets$Act" "a" "I" ∈ Tg := List.mem_filter.mpr ⟨List.mem_of_getElem? (i := 331) (by decide +kernel), by decide +kernel⟩
theorem kf_X0_18 : Cond.fieldLink RX0 18 "StepBudgets$Act" "b" "I" ∈ Tg := List.mem_filter.mpr ⟨List.mem_of_getElem? (i := 332) (by decide +kernel), by decide +kernel⟩
theorem kf_X0_21 : Cond.fieldLink RX0 21 "StepBudgets$Act" "c" "I" ∈ Tg := List.mem_filter.mpr ⟨List.mem_of_getElem? (i := 333) (by decide +kernel), by decide +kernel⟩
theorem kf_X0_24 : Cond.fieldLink RX0 24 "StepBudgets$Act" "d" "I" ∈ Tg := List.mem_filter.mpr ⟨List.mem_of_getElem? (i := 334) (by decide +kernel), by decide +kernel⟩
theorem km_X10_49 : Cond.methodLink RX10 49 yJx4a65c_add_9ea2d ∈ Tg := List.mem_filter.mpr ⟨List.mem_of_getElem? (i := 346) (by decide +kernel), by decide +kernel⟩
theorem ki_Jx4a65c_add_9ea2d : Cond.instanceMethod yJx4a65c_add_9ea2d ∈ Tg := List.mem_filter.mpr ⟨List.mem_of_getElem? (i := 347) (by decide +kernel), by decide +kernel⟩
theorem kl_Jx4a65c_add_9ea2d : Cond.selects RJx4a65c yJx4a65c_add_9ea2d yJx4a65c_add_9ea2d ∈ Tg := List.mem_filter.mpr ⟨List.mem_of_getElem? (i := 348) (by decide +kernel), by decide +kernel⟩
theorem kc_Jx4a65c_add_9ea2d : Cond.code yJx4a65c_add_9ea2d cJx4a65c_add_9ea2d 2 (some .boolean) ∈ Tg := List.mem_filter.mpr ⟨List.mem_of_getElem? (i := 349) (by decide +kernel), by decide +kernel⟩
theorem km_Jx4a65c_131 : Cond.methodLink RJx4a65c 131 yJx4a65c_add_72be8 ∈ Tg := List.mem_filter.mpr ⟨List.mem_of_getElem? (i := 350) (by decide +kernel), by decide +kernel⟩
theorem ki_Jx4a65c_add_72be8 : Cond.instanceMethod yJx4a65c_add_72be8 ∈ Tg := List.mem_filter.mpr ⟨List.mem_of_getElem? (i := 352) (by decide +kernel), by decide +kernel⟩
theorem kc_Jx4a65c_add_72be8 : Cond.code yJx4a65c_add_72be8 cJx4a65c_add_72be8 4 none ∈ Tg := List.mem_filter.mpr ⟨List.mem_of_getElem? (i := 353) (by decide +kernel), by decide +kernel⟩
theorem km_Jx4a65c_129 : Cond.methodLink RJx4a65c 129 yJx4a65c_grow_d5877 ∈ Tg := List.mem_filter.mpr ⟨List.mem_of_getElem? (i := 354) (by decide +kernel), by decide +kernel⟩
theorem ki_Jx4a65c_grow_d5877 : Cond.instanceMethod yJx4a65c_grow_d5877 ∈ Tg := List.mem_filter.mpr ⟨List.mem_of_getElem? (i := 356) (by decide +kernel), by decide +kernel⟩
theorem kc_Jx4a65c_grow_d5877 : Cond.code yJx4a65c_grow_d5877 cJx4a65c_grow_d5877 1 (some (.array (.object "java/lang/Object"))) ∈ Tg := List.mem_filter.mpr ⟨List.mem_of_getElem? (i := 357) (by decide +kernel), by decide +kernel⟩
theorem km_Jx4a65c_69 : Cond.methodLink RJx4a65c 69 yJx4a65c_grow_92f84 ∈ Tg := List.mem_filter.mpr ⟨List.mem_of_getElem? (i := 358) (by decide +kernel), by decide +kernel⟩
theorem ki_Jx4a65c_grow_92f84 : Cond.instanceMethod yJx4a65c_grow_92f84 ∈ Tg := List.mem_filter.mpr ⟨List.mem_of_getElem? (i := 360) (by decide +kernel), by decide +kernel⟩
theorem kc_Jx4a65c_grow_92f84 : Cond.code yJx4a65c_grow_92f84 cJx4a65c_grow_92f84 4 (some (.array (.object "java/lang/Object"))) ∈ Tg := List.mem_filter.mpr ⟨List.mem_of_getElem? (i := 361) (by decide +kernel), by decide +kernel⟩
theorem km_Jx4a65c_73 : Cond.methodLink RJx4a65c 73 yJ8_newLength_cabcc ∈ Tg := List.mem_filter.mpr ⟨List.mem_of_getElem? (i := 362) (by decide +kernel), by decide +kernel⟩
theorem ks_J8_newLength_cabcc : Cond.static yJ8_newLength_cabcc ∈ Tg := List.mem_filter.mpr ⟨List.mem_of_getElem? (i := 363) (by decide +kernel), by decide +kernel⟩
theorem kc_J8_newLength_cabcc : Cond.code yJ8_newLength_cabcc cJ8_newLength_cabcc 4 (some .int) ∈ Tg := List.mem_filter.mpr ⟨List.mem_of_getElem? (i := 364) (by decide +kernel), by decide +kernel⟩
theorem km_J8_194 : Cond.methodLink RJ8 194 yJ9_max_7cf53 ∈ Tg := List.mem_filter.mpr ⟨List.mem_of_getElem? (i := 365) (by decide +kernel), by decide +kernel⟩
theorem ks_J9_max_7cf53 : Cond.static yJ9_max_7cf53 ∈ Tg := List.mem_filter.mpr ⟨List.mem_of_getElem? (i := 366) (by decide +kernel), by decide +kernel⟩
theorem kc_J9_max_7cf53 : Cond.code yJ9_max_7cf53 cJ9_max_7cf53 2 (some .int) ∈ Tg := List.mem_filter.mpr ⟨List.mem_of_getElem? (i := 367) (by decide +kernel), by decide +kernel⟩
theorem kk_J8_200 : Cond.constant RJ8 200 (2147483639) ∈ Tg := List.mem_filter.mpr ⟨List.mem_of_getElem? (i := 368) (by decide +kernel), by decide +kernel⟩
theorem km_J8_201 : Cond.methodLink RJ8 201 yJ8_hugeLength_7cf53 ∈ Tg := List.mem_filter.mpr ⟨List.mem_of_getElem? (i := 369) (by decide +kernel), by decide +kernel⟩
theorem ks_J8_hugeLength_7cf53 : Cond.static yJ8_hugeLength_7cf53 ∈ Tg := List.mem_filter.mpr ⟨List.mem_of_getElem? (i := 370) (by decide +kernel), by decide +kernel⟩
theorem kc_J8_hugeLength_7cf53 : Cond.code yJ8_hugeLength_7cf53 cJ8_hugeLength_7cf53 3 (some .int) ∈ Tg := List.mem_filter.mpr ⟨List.mem_of_getElem? (i := 371) (by decide +kernel), by decide +kernel⟩
theorem km_Jx4a65c_66 : Cond.methodLink RJx4a65c 66 yJ7_copyOf_1904c ∈ Tg := List.mem_filter.mpr ⟨List.mem_of_getElem? (i := 372) (by decide +kernel), by decide +kernel⟩
theorem ks_J7_copyOf_1904c : Cond.static yJ7_copyOf_1904c ∈ Tg := List.mem_filter.mpr ⟨List.mem_of_getElem? (i := 373) (by decide +kernel), by decide +kernel⟩
theorem kc_J7_copyOf_1904c : Cond.code yJ7_copyOf_1904c cJ7_copyOf_1904c 2 (some (.array (.object "java/lang/Object"))) ∈ Tg := List.mem_filter.mpr ⟨List.mem_of_getElem? (i := 374) (by decide +kernel), by decide +kernel⟩
theorem km_J7_86 : Cond.methodLink RJ7 86 ⟨"java/lang/Object", "getClass", "()Ljava/lang/Class;"⟩ ∈ Tg := List.mem_filter.mpr ⟨List.mem_of_getElem? (i := 375) (by decide +kernel), by decide +kernel⟩
theorem km_J7_300 : Cond.methodLink RJ7 300 yJ7_copyOf_6403c ∈ Tg := List.mem_filter.mpr ⟨List.mem_of_getElem? (i := 392) (by decide +kernel), by decide +kernel⟩
theorem ks_J7_copyOf_6403c : Cond.static yJ7_copyOf_6403c ∈ Tg := List.mem_filter.mpr ⟨List.mem_of_getElem? (i := 393) (by decide +kernel), by decide +kernel⟩
theorem kc_J7_copyOf_6403c : Cond.code yJ7_copyOf_6403c cJ7_copyOf_6403c 4 (some (.array (.object "java/lang/Object"))) ∈ Tg := List.mem_filter.mpr ⟨List.mem_of_getElem? (i := 394) (by decide +kernel), by decide +kernel⟩
theorem kC_J7_110 : Cond.classLink RJ7 110 "[Ljava/lang/Object;" ∈ Tg := List.mem_filter.mpr ⟨List.mem_of_getElem? (i := 395) (by decide +kernel), by decide +kernel⟩
theorem kC_J7_2 : Cond.classLink RJ7 2 "java/lang/Object" ∈ Tg := List.mem_filter.mpr ⟨List.mem_of_getElem? (i := 397) (by decide +kernel), by decide +kernel⟩
theorem km_J7_304 : Cond.methodLink RJ7 304 yJ9_min_7cf53 ∈ Tg := List.mem_filter.mpr ⟨List.mem_of_getElem? (i := 398) (by decide +kernel), by decide +kernel⟩
theorem ks_J9_min_7cf53 : Cond.static yJ9_min_7cf53 ∈ Tg := List.mem_filter.mpr ⟨List.mem_of_getElem? (i := 399) (by decide +kernel), by decide +kernel⟩
theorem kc_J9_min_7cf53 : Cond.code yJ9_min_7cf53 cJ9_min_7cf53 2 (some .int) ∈ Tg := List.mem_filter.mpr ⟨List.mem_of_getElem? (i := 400) (by decide +kernel), by decide +kernel⟩
theorem km_J7_150 : Cond.methodLink RJ7 150 ⟨"java/lang/System", "arraycopy", "(Ljava/lang/Object;ILjava/lang/Object;II)V"⟩ ∈ Tg := List.mem_filter.mpr ⟨List.mem_of_getElem? (i := 401) (by decide +kernel), by decide +kernel⟩
theorem ks_arraycopy : Cond.static arraycopyName ∈ Tg := List.mem_filter.mpr ⟨List.mem_of_getElem? (i := 402) (by decide +kernel), by decide +kernel⟩
theorem kn_arraycopy : Cond.native arraycopyName ∈ Tg := List.mem_filter.mpr ⟨List.mem_of_getElem? (i := 403) (by decide +kernel), by decide +kernel⟩
theorem km_Jx4a65c_79 : Cond.methodLink RJx4a65c 79 yJ9_max_7cf53 ∈ Tg := List.mem_filter.mpr ⟨List.mem_of_getElem? (i := 404) (by decide +kernel), by decide +kernel⟩
theorem kC_Jx4a65c_7 : Cond.classLink RJx4a65c 7 "java/lang/Object" ∈ Tg := List.mem_filter.mpr ⟨List.mem_of_getElem? (i := 405) (by decide +kernel), by decide +kernel⟩
theorem km_L_18 : Cond.methodLink RL 18 yX10_guard ∈ Tg := List.mem_filter.mpr ⟨List.mem_of_getElem? (i := 406) (by decide +kernel), by decide +kernel⟩
theorem ki_X10_guard : Cond.instanceMethod yX10_guard ∈ Tg := List.mem_filter.mpr ⟨List.mem_of_getElem? (i := 407) (by decide +kernel), by decide +kernel⟩
theorem kl_X10_guard : Cond.selects RX10 yX10_guard yX10_guard ∈ Tg := List.mem_filter.mpr ⟨List.mem_of_getElem? (i := 408) (by decide +kernel), by decide +kernel⟩
theorem kc_X10_guard : Cond.code yX10_guard cX10_guard 7 (some .int) ∈ Tg := List.mem_filter.mpr ⟨List.mem_of_getElem? (i := 409) (by decide +kernel), by decide +kernel⟩
theorem km_X10_53 : Cond.methodLink RX10 53 yX10_isSpan ∈ Tg := List.mem_filter.mpr ⟨List.mem_of_getElem? (i := 410) (by decide +kernel), by decide +kernel⟩
theorem ks_X10_isSpan : Cond.static yX10_isSpan ∈ Tg := List.mem_filter.mpr ⟨List.mem_of_getElem? (i := 411) (by decide +kernel), by decide +kernel⟩
theorem kc_X10_isSpan : Cond.code yX10_isSpan cX10_isSpan 2 (some .boolean) ∈ Tg := List.mem_filter.mpr ⟨List.mem_of_getElem? (i := 412) (by decide +kernel), by decide +kernel⟩
theorem kC_X10_59 : Cond.classLink RX10 59 RX3 ∈ Tg := List.mem_filter.mpr ⟨List.mem_of_getElem? (i := 413) (by decide +kernel), by decide +kernel⟩
theorem kN_X3 : Cond.instantiable RX3 4 ∈ Tg := List.mem_filter.mpr ⟨List.mem_of_getElem? (i := 414) (by decide +kernel), by decide +kernel⟩
theorem ki_X3_init : Cond.instanceMethod yX3_init ∈ Tg := List.mem_filter.mpr ⟨List.mem_of_getElem? (i := 416) (by decide +kernel), by decide +kernel⟩
theorem kc_X3_init : Cond.code yX3_init cX3_init 5 none ∈ Tg := List.mem_filter.mpr ⟨List.mem_of_getElem? (i := 417) (by decide +kernel), by decide +kernel⟩
theorem km_X3_1 : Cond.methodLink RX3 1 yJxe7f93_init_da8c8 ∈ Tg := List.mem_filter.mpr ⟨List.mem_of_getElem? (i := 418) (by decide +kernel), by decide +kernel⟩
theorem kf_X3_7 : Cond.fieldLink RX3 7 "StepBudgets$Guard" "from" "I" ∈ Tg := List.mem_filter.mpr ⟨List.mem_of_getElem? (i := 419) (by decide +kernel), by decide +kernel⟩
theorem kf_X3_13 : Cond.fieldLink RX3 13 "StepBudgets$Guard" "to" "I" ∈ Tg := List.mem_filter.mpr ⟨List.mem_of_getElem? (i := 420) (by decide +kernel), by decide +kernel⟩
theorem kf_X3_16 : Cond.fieldLink RX3 16 "StepBudgets$Guard" "kind" "I" ∈ Tg := List.mem_filter.mpr ⟨List.mem_of_getElem? (i := 421) (by decide +kernel), by decide +kernel⟩
theorem kf_X3_19 : Cond.fieldLink RX3 19 "StepBudgets$Guard" "at" "I" ∈ Tg := List.mem_filter.mpr ⟨List.mem_of_getElem? (i := 422) (by decide +kernel), by decide +kernel⟩
theorem km_L_23 : Cond.methodLink RL 23 yX10_clean ∈ Tg := List.mem_filter.mpr ⟨List.mem_of_getElem? (i := 432) (by decide +kernel), by decide +kernel⟩
theorem ki_X10_clean : Cond.instanceMethod yX10_clean ∈ Tg := List.mem_filter.mpr ⟨List.mem_of_getElem? (i := 433) (by decide +kernel), by decide +kernel⟩
theorem kl_X10_clean : Cond.selects RX10 yX10_clean yX10_clean ∈ Tg := List.mem_filter.mpr ⟨List.mem_of_getElem? (i := 434) (by decide +kernel), by decide +kernel⟩
theorem kc_X10_clean : Cond.code yX10_clean cX10_clean 6 (some .int) ∈ Tg := List.mem_filter.mpr ⟨List.mem_of_getElem? (i := 435) (by decide +kernel), by decide +kernel⟩
theorem kC_X10_67 : Cond.classLink RX10 67 RX1 ∈ Tg := List.mem_filter.mpr ⟨List.mem_of_getElem? (i := 436) (by decide +kernel), by decide +kernel⟩
theorem kN_X1 : Cond.instantiable RX1 3 ∈ Tg := List.mem_filter.mpr ⟨List.mem_of_getElem? (i := 437) (by decide +kernel), by decide +kernel⟩
theorem ki_X1_init : Cond.instanceMethod yX1_init ∈ Tg := List.mem_filter.mpr ⟨List.mem_of_getElem? (i := 439) (by decide +kernel), by decide +kernel⟩
theorem kc_X1_init : Cond.code yX1_init cX1_init 4 none ∈ Tg := List.mem_filter.mpr ⟨List.mem_of_getElem? (i := 440) (by decide +kernel), by decide +kernel⟩
theorem km_X1_1 : Cond.methodLink RX1 1 yJxe7f93_init_da8c8 ∈ Tg := List.mem_filter.mpr ⟨List.mem_of_getElem? (i := 441) (by decide +kernel), by decide +kernel⟩
theorem kf_X1_7 : Cond.fieldLink RX1 7 "StepBudgets$Clean" "from" "I" ∈ Tg := List.mem_filter.mpr ⟨List.mem_of_getElem? (i := 442) (by decide +kernel), by decide +kernel⟩
theorem kf_X1_13 : Cond.fieldLink RX1 13 "StepBudgets$Clean" "to" "I" ∈ Tg := List.mem_filter.mpr ⟨List.mem_of_getElem? (i := 443) (by decide +kernel), by decide +kernel⟩
theorem kf_X1_16 : Cond.fieldLink RX1 16 "StepBudgets$Clean" "by" "I" ∈ Tg := List.mem_filter.mpr ⟨List.mem_of_getElem? (i := 444) (by decide +kernel), by decide +kernel⟩
theorem km_L_28 : Cond.methodLink RL 28 yX10_clear ∈ Tg := List.mem_filter.mpr ⟨List.mem_of_getElem? (i := 452) (by decide +kernel), by decide +kernel⟩
theorem ki_X10_clear : Cond.instanceMethod yX10_clear ∈ Tg := List.mem_filter.mpr ⟨List.mem_of_getElem? (i := 453) (by decide +kernel), by decide +kernel⟩
theorem kl_X10_clear : Cond.selects RX10 yX10_clear yX10_clear ∈ Tg := List.mem_filter.mpr ⟨List.mem_of_getElem? (i := 454) (by decide +kernel), by decide +kernel⟩
theorem kc_X10_clear : Cond.code yX10_clear cX10_clear 3 (some .int) ∈ Tg := List.mem_filter.mpr ⟨List.mem_of_getElem? (i := 455) (by decide +kernel), by decide +kernel⟩
theorem km_X10_72 : Cond.methodLink RX10 72 yX6_forget ∈ Tg := List.mem_filter.mpr ⟨List.mem_of_getElem? (i := 456) (by decide +kernel), by decide +kernel⟩
theorem ki_X6_forget : Cond.instanceMethod yX6_forget ∈ Tg := List.mem_filter.mpr ⟨List.mem_of_getElem? (i := 457) (by decide +kernel), by decide +kernel⟩
theorem kl_X6_forget : Cond.selects RX6 yX6_forget yX6_forget ∈ Tg := List.mem_filter.mpr ⟨List.mem_of_getElem? (i := 458) (by decide +kernel), by decide +kernel⟩
theorem kc_X6_forget : Cond.code yX6_forget cX6_forget 1 none ∈ Tg := List.mem_filter.mpr ⟨List.mem_of_getElem? (i := 459) (by decide +kernel), by decide +kernel⟩
theorem km_X6_24 : Cond.methodLink RX6 24 yJx4a65c_clear_da8c8 ∈ Tg := List.mem_filter.mpr ⟨List.mem_of_getElem? (i := 460) (by decide +kernel), by decide +kernel⟩
theorem ki_Jx4a65c_clear_da8c8 : Cond.instanceMethod yJx4a65c_clear_da8c8 ∈ Tg := List.mem_filter.mpr ⟨List.mem_of_getElem? (i := 461) (by decide +kernel), by decide +kernel⟩
theorem kl_Jx4a65c_clear_da8c8 : Cond.selects RJx4a65c yJx4a65c_clear_da8c8 yJx4a65c_clear_da8c8 ∈ Tg := List.mem_filter.mpr ⟨List.mem_of_getElem? (i := 462) (by decide +kernel), by decide +kernel⟩
theorem kc_Jx4a65c_clear_da8c8 : Cond.code yJx4a65c_clear_da8c8 cJx4a65c_clear_da8c8 4 none ∈ Tg := List.mem_filter.mpr ⟨List.mem_of_getElem? (i := 463) (by decide +kernel), by decide +kernel⟩
theorem km_L_33 : Cond.methodLink RL 33 yX10_reserve ∈ Tg := List.mem_filter.mpr ⟨List.mem_of_getElem? (i := 464) (by decide +kernel), by decide +kernel⟩
theorem ki_X10_reserve : Cond.instanceMethod yX10_reserve ∈ Tg := List.mem_filter.mpr ⟨List.mem_of_getElem? (i := 465) (by decide +kernel), by decide +kernel⟩
theorem kl_X10_reserve : Cond.selects RX10 yX10_reserve yX10_reserve ∈ Tg := List.mem_filter.mpr ⟨List.mem_of_getElem? (i := 466) (by decide +kernel), by decide +kernel⟩
theorem kc_X10_reserve : Cond.code yX10_reserve cX10_reserve 3 (some .int) ∈ Tg := List.mem_filter.mpr ⟨List.mem_of_getElem? (i := 467) (by decide +kernel), by decide +kernel⟩
theorem km_L_37 : Cond.methodLink RL 37 yX10_run ∈ Tg := List.mem_filter.mpr ⟨List.mem_of_getElem? (i := 468) (by decide +kernel), by decide +kernel⟩
theorem ki_X10_run : Cond.instanceMethod yX10_run ∈ Tg := List.mem_filter.mpr ⟨List.mem_of_getElem? (i := 469) (by decide +kernel), by decide +kernel⟩
theorem kl_X10_run : Cond.selects RX10 yX10_run yX10_run ∈ Tg := List.mem_filter.mpr ⟨List.mem_of_getElem? (i := 470) (by decide +kernel), by decide +kernel⟩
theorem kc_X10_run : Cond.code yX10_run cX10_run 4 (some .int) ∈ Tg := List.mem_filter.mpr ⟨List.mem_of_getElem? (i := 471) (by decide +kernel), by decide +kernel⟩
theorem km_X10_75 : Cond.methodLink RX10 75 yX4_start ∈ Tg := List.mem_filter.mpr ⟨List.mem_of_getElem? (i := 472) (by decide +kernel), by decide +kernel⟩
theorem ki_X4_start : Cond.instanceMethod yX4_start ∈ Tg := List.mem_filter.mpr ⟨List.mem_of_getElem? (i := 473) (by decide +kernel), by decide +kernel⟩
theorem kl_X4_start : Cond.selects RX4 yX4_start yX4_start ∈ Tg := List.mem_filter.mpr ⟨List.mem_of_getElem? (i := 474) (by decide +kernel), by decide +kernel⟩
theorem kc_X4_start : Cond.code yX4_start cX4_start 6 (some .int) ∈ Tg := List.mem_filter.mpr ⟨List.mem_of_getElem? (i := 475) (by decide +kernel), by decide +kernel⟩
theorem km_X4_46 : Cond.methodLink RX4 46 yX8_begin ∈ Tg := List.mem_filter.mpr ⟨List.mem_of_getElem? (i := 476) (by decide +kernel), by decide +kernel⟩
theorem ki_X8_begin : Cond.instanceMethod yX8_begin ∈ Tg := List.mem_filter.mpr ⟨List.mem_of_getElem? (i := 477) (by decide +kernel), by decide +kernel⟩
theorem kl_X8_begin : Cond.selects RX8 yX8_begin yX8_begin ∈ Tg := List.mem_filter.mpr ⟨List.mem_of_getElem? (i := 478) (by decide +kernel), by decide +kernel⟩
theorem kc_X8_begin : Cond.code yX8_begin cX8_begin 1 none ∈ Tg := List.mem_filter.mpr ⟨List.mem_of_getElem? (i := 479) (by decide +kernel), by decide +kernel⟩
theorem km_X4_49 : Cond.methodLink RX4 49 yX9_forget ∈ Tg := List.mem_filter.mpr ⟨List.mem_of_getElem? (i := 480) (by decide +kernel), by decide +kernel⟩
theorem ki_X9_forget : Cond.instanceMethod yX9_forget ∈ Tg := List.mem_filter.mpr ⟨List.mem_of_getElem? (i := 481) (by decide +kernel), by decide +kernel⟩
theorem kl_X9_forget : Cond.selects RX9 yX9_forget yX9_forget ∈ Tg := List.mem_filter.mpr ⟨List.mem_of_getElem? (i := 482) (by decide +kernel), by decide +kernel⟩
theorem kc_X9_forget : Cond.code yX9_forget cX9_forget 1 none ∈ Tg := List.mem_filter.mpr ⟨List.mem_of_getElem? (i := 483) (by decide +kernel), by decide +kernel⟩
theorem km_X4_52 : Cond.methodLink RX4 52 yX5_begin ∈ Tg := List.mem_filter.mpr ⟨List.mem_of_getElem? (i := 484) (by decide +kernel), by decide +kernel⟩
theorem ki_X5_begin : Cond.instanceMethod yX5_begin ∈ Tg := List.mem_filter.mpr ⟨List.mem_of_getElem? (i := 485) (by decide +kernel), by decide +kernel⟩
theorem kl_X5_begin : Cond.selects RX5 yX5_begin yX5_begin ∈ Tg := List.mem_filter.mpr ⟨List.mem_of_getElem? (i := 486) (by decide +kernel), by decide +kernel⟩
theorem kc_X5_begin : Cond.code yX5_begin cX5_begin 3 none ∈ Tg := List.mem_filter.mpr ⟨List.mem_of_getElem? (i := 487) (by decide +kernel), by decide +kernel⟩
theorem km_X4_55 : Cond.methodLink RX4 55 yX4_callFrame ∈ Tg := List.mem_filter.mpr ⟨List.mem_of_getElem? (i := 488) (by decide +kernel), by decide +kernel⟩
theorem ki_X4_callFrame : Cond.instanceMethod yX4_callFrame ∈ Tg := List.mem_filter.mpr ⟨List.mem_of_getElem? (i := 490) (by decide +kernel), by decide +kernel⟩
theorem kc_X4_callFrame : Cond.code yX4_callFrame cX4_callFrame 6 (some (.object "StepBudgets$Outcome")) ∈ Tg := List.mem_filter.mpr ⟨List.mem_of_getElem? (i := 491) (by decide +kernel), by decide +kernel⟩
theorem km_X4_81 : Cond.methodLink RX4 81 yX4_makeFrame ∈ Tg := List.mem_filter.mpr ⟨List.mem_of_getElem? (i := 492) (by decide +kernel), by decide +kernel⟩
theorem ki_X4_makeFrame : Cond.instanceMethod yX4_makeFrame ∈ Tg := List.mem_filter.mpr ⟨List.mem_of_getElem? (i := 494) (by decide +kernel), by decide +kernel⟩
theorem kc_X4_makeFrame : Cond.code yX4_makeFrame cX4_makeFrame 6 (some (.object "StepBudgets$Outcome")) ∈ Tg := List.mem_filter.mpr ⟨List.mem_of_getElem? (i := 495) (by decide +kernel), by decide +kernel⟩
theorem km_X4_91 : Cond.methodLink RX4 91 yX5_count ∈ Tg := List.mem_filter.mpr ⟨List.mem_of_getElem? (i := 496) (by decide +kernel), by decide +kernel⟩
theorem ki_X5_count : Cond.instanceMethod yX5_count ∈ Tg := List.mem_filter.mpr ⟨List.mem_of_getElem? (i := 497) (by decide +kernel), by decide +kernel⟩
theorem kl_X5_count : Cond.selects RX5 yX5_count yX5_count ∈ Tg := List.mem_filter.mpr ⟨List.mem_of_getElem? (i := 498) (by decide +kernel), by decide +kernel⟩
theorem kc_X5_count : Cond.code yX5_count cX5_count 3 (some (.object "StepBudgets$Outcome")) ∈ Tg := List.mem_filter.mpr ⟨List.mem_of_getElem? (i := 499) (by decide +kernel), by decide +kernel⟩
theorem km_X5_32 : Cond.methodLink RX5 32 yX5_refuse ∈ Tg := List.mem_filter.mpr ⟨List.mem_of_getElem? (i := 500) (by decide +kernel), by decide +kernel⟩
theorem ki_X5_refuse : Cond.instanceMethod yX5_refuse ∈ Tg := List.mem_filter.mpr ⟨List.mem_of_getElem? (i := 502) (by decide +kernel), by decide +kernel⟩
theorem kc_X5_refuse : Cond.code yX5_refuse cX5_refuse 1 (some (.object "StepBudgets$Outcome")) ∈ Tg := List.mem_filter.mpr ⟨List.mem_of_getElem? (i := 503) (by decide +kernel), by decide +kernel⟩
theorem kf_X5_42 : Cond.fieldLink RX5 42 "StepBudgets$Outcome" "ENDED" "LStepBudgets$Outcome;" ∈ Tg := List.mem_filter.mpr ⟨List.mem_of_getElem? (i := 504) (by decide +kernel), by decide +kernel⟩
theorem kf_X5_45 : Cond.fieldLink RX5 45 "StepBudgets$Outcome" "STOPPED" "LStepBudgets$Outcome;" ∈ Tg := List.mem_filter.mpr ⟨List.mem_of_getElem? (i := 506) (by decide +kernel), by decide +kernel⟩
theorem kf_X5_36 : Cond.fieldLink RX5 36 "StepBudgets$Outcome" "GOES_ON" "LStepBudgets$Outcome;" ∈ Tg := List.mem_filter.mpr ⟨List.mem_of_getElem? (i := 508) (by decide +kernel), by decide +kernel⟩
theorem kf_X4_84 : Cond.fieldLink RX4 84 "StepBudgets$Outcome" "GOES_ON" "LStepBudgets$Outcome;" ∈ Tg := List.mem_filter.mpr ⟨List.mem_of_getElem? (i := 510) (by decide +kernel), by decide +kernel⟩
theorem km_X4_94 : Cond.methodLink RX4 94 yX4_raise ∈ Tg := List.mem_filter.mpr ⟨List.mem_of_getElem? (i := 511) (by decide +kernel), by decide +kernel⟩
theorem ki_X4_raise : Cond.instanceMethod yX4_raise ∈ Tg := List.mem_filter.mpr ⟨List.mem_of_getElem? (i := 513) (by decide +kernel), by decide +kernel⟩
theorem kc_X4_raise : Cond.code yX4_raise cX4_raise 3 (some (.object "StepBudgets$Outcome")) ∈ Tg := List.mem_filter.mpr ⟨List.mem_of_getElem? (i := 514) (by decide +kernel), by decide +kernel⟩
theorem km_X4_203 : Cond.methodLink RX4 203 yX5_countThrow ∈ Tg := List.mem_filter.mpr ⟨List.mem_of_getElem? (i := 515) (by decide +kernel), by decide +kernel⟩
theorem ki_X5_countThrow : Cond.instanceMethod yX5_countThrow ∈ Tg := List.mem_filter.mpr ⟨List.mem_of_getElem? (i := 516) (by decide +kernel), by decide +kernel⟩
theorem kl_X5_countThrow : Cond.selects RX5 yX5_countThrow yX5_countThrow ∈ Tg := List.mem_filter.mpr ⟨List.mem_of_getElem? (i := 517) (by decide +kernel), by decide +kernel⟩
theorem kc_X5_countThrow : Cond.code yX5_countThrow cX5_countThrow 1 (some (.object "StepBudgets$Outcome")) ∈ Tg := List.mem_filter.mpr ⟨List.mem_of_getElem? (i := 518) (by decide +kernel), by decide +kernel⟩
theorem kf_X4_72 : Cond.fieldLink RX4 72 "StepBudgets$Outcome" "THREW" "LStepBudgets$Outcome;" ∈ Tg := List.mem_filter.mpr ⟨List.mem_of_getElem? (i := 519) (by decide +kernel), by decide +kernel⟩
theorem km_X4_97 : Cond.methodLink RX4 97 yX2_begin ∈ Tg := List.mem_filter.mpr ⟨List.mem_of_getElem? (i := 521) (by decide +kernel), by decide +kernel⟩
theorem ki_X2_begin : Cond.instanceMethod yX2_begin ∈ Tg := List.mem_filter.mpr ⟨List.mem_of_getElem? (i := 522) (by decide +kernel), by decide +kernel⟩
theorem kl_X2_begin : Cond.selects RX2 yX2_begin yX2_begin ∈ Tg := List.mem_filter.mpr ⟨List.mem_of_getElem? (i := 523) (by decide +kernel), by decide +kernel⟩
theorem kc_X2_begin : Cond.code yX2_begin cX2_begin 4 none ∈ Tg := List.mem_filter.mpr ⟨List.mem_of_getElem? (i := 524) (by decide +kernel), by decide +kernel⟩
theorem km_X2_18 : Cond.methodLink RX2 18 yJ7_fill_53178 ∈ Tg := List.mem_filter.mpr ⟨List.mem_of_getElem? (i := 525) (by decide +kernel), by decide +kernel⟩
theorem ks_J7_fill_53178 : Cond.static yJ7_fill_53178 ∈ Tg := List.mem_filter.mpr ⟨List.mem_of_getElem? (i := 526) (by decide +kernel), by decide +kernel⟩
theorem kc_J7_fill_53178 : Cond.code yJ7_fill_53178 cJ7_fill_53178 4 none ∈ Tg := List.mem_filter.mpr ⟨List.mem_of_getElem? (i := 527) (by decide +kernel), by decide +kernel⟩
theorem km_X4_100 : Cond.methodLink RX4 100 yX8_noteFrame ∈ Tg := List.mem_filter.mpr ⟨List.mem_of_getElem? (i := 528) (by decide +kernel), by decide +kernel⟩
theorem ki_X8_noteFrame : Cond.instanceMethod yX8_noteFrame ∈ Tg := List.mem_filter.mpr ⟨List.mem_of_getElem? (i := 529) (by decide +kernel), by decide +kernel⟩
theorem kl_X8_noteFrame : Cond.selects RX8 yX8_noteFrame yX8_noteFrame ∈ Tg := List.mem_filter.mpr ⟨List.mem_of_getElem? (i := 530) (by decide +kernel), by decide +kernel⟩
theorem kc_X8_noteFrame : Cond.code yX8_noteFrame cX8_noteFrame 2 none ∈ Tg := List.mem_filter.mpr ⟨List.mem_of_getElem? (i := 531) (by decide +kernel), by decide +kernel⟩
theorem km_X8_34 : Cond.methodLink RX8 34 yJ9_max_7cf53 ∈ Tg := List.mem_filter.mpr ⟨List.mem_of_getElem? (i := 532) (by decide +kernel), by decide +kernel⟩
theorem km_X4_87 : Cond.methodLink RX4 87 yX4_performFrame ∈ Tg := List.mem_filter.mpr ⟨List.mem_of_getElem? (i := 533) (by decide +kernel), by decide +kernel⟩
theorem ki_X4_performFrame : Cond.instanceMethod yX4_performFrame ∈ Tg := List.mem_filter.mpr ⟨List.mem_of_getElem? (i := 535) (by decide +kernel), by decide +kernel⟩
theorem kc_X4_performFrame : Cond.code yX4_performFrame cX4_performFrame 6 (some (.object "StepBudgets$Outcome")) ∈ Tg := List.mem_filter.mpr ⟨List.mem_of_getElem? (i := 536) (by decide +kernel), by decide +kernel⟩
theorem km_X4_111 : Cond.methodLink RX4 111 yJx4a65c_size_8abf5 ∈ Tg := List.mem_filter.mpr ⟨List.mem_of_getElem? (i := 537) (by decide +kernel), by decide +kernel⟩
theorem kk_X4_117 : Cond.constant RX4 117 (1000000) ∈ Tg := List.mem_filter.mpr ⟨List.mem_of_getElem? (i := 538) (by decide +kernel), by decide +kernel⟩
theorem km_X4_121 : Cond.methodLink RX4 121 yX4_performAct ∈ Tg := List.mem_filter.mpr ⟨List.mem_of_getElem? (i := 539) (by decide +kernel), by decide +kernel⟩
theorem ki_X4_performAct : Cond.instanceMethod yX4_performAct ∈ Tg := List.mem_filter.mpr ⟨List.mem_of_getElem? (i := 541) (by decide +kernel), by decide +kernel⟩
theorem kc_X4_performAct : Cond.code yX4_performAct cX4_performAct 4 (some (.object "StepBudgets$Outcome")) ∈ Tg := List.mem_filter.mpr ⟨List.mem_of_getElem? (i := 542) (by decide +kernel), by decide +kernel⟩
theorem km_X4_137 : Cond.methodLink RX4 137 yJx4a65c_get_915e3 ∈ Tg := List.mem_filter.mpr ⟨List.mem_of_getElem? (i := 543) (by decide +kernel), by decide +kernel⟩
theorem ki_Jx4a65c_get_915e3 : Cond.instanceMethod yJx4a65c_get_915e3 ∈ Tg := List.mem_filter.mpr ⟨List.mem_of_getElem? (i := 544) (by decide +kernel), by decide +kernel⟩
theorem kl_Jx4a65c_get_915e3 : Cond.selects RJx4a65c yJx4a65c_get_915e3 yJx4a65c_get_915e3 ∈ Tg := List.mem_filter.mpr ⟨List.mem_of_getElem? (i := 545) (by decide +kernel), by decide +kernel⟩
theorem kc_Jx4a65c_get_915e3 : Cond.code yJx4a65c_get_915e3 cJx4a65c_get_915e3 2 (some (.object "java/lang/Object")) ∈ Tg := List.mem_filter.mpr ⟨List.mem_of_getElem? (i := 546) (by decide +kernel), by decide +kernel⟩
theorem km_Jx4a65c_118 : Cond.methodLink RJx4a65c 118 yJ15_checkIndex_7cf53 ∈ Tg := List.mem_filter.mpr ⟨List.mem_of_getElem? (i := 547) (by decide +kernel), by decide +kernel⟩
theorem ks_J15_checkIndex_7cf53 : Cond.static yJ15_checkIndex_7cf53 ∈ Tg := List.mem_filter.mpr ⟨List.mem_of_getElem? (i := 548) (by decide +kernel), by decide +kernel⟩
theorem kc_J15_checkIndex_7cf53 : Cond.code yJ15_checkIndex_7cf53 cJ15_checkIndex_7cf53 2 (some .int) ∈ Tg := List.mem_filter.mpr ⟨List.mem_of_getElem? (i := 549) (by decide +kernel), by decide +kernel⟩
theorem km_J15_105 : Cond.methodLink RJ15 105 yJ3_checkIndex_8e157 ∈ Tg := List.mem_filter.mpr ⟨List.mem_of_getElem? (i := 550) (by decide +kernel), by decide +kernel⟩
theorem ks_J3_checkIndex_8e157 : Cond.static yJ3_checkIndex_8e157 ∈ Tg := List.mem_filter.mpr ⟨List.mem_of_getElem? (i := 551) (by decide +kernel), by decide +kernel⟩
theorem kc_J3_checkIndex_8e157 : Cond.code yJ3_checkIndex_8e157 cJ3_checkIndex_8e157 3 (some .int) ∈ Tg := List.mem_filter.mpr ⟨List.mem_of_getElem? (i := 552) (by decide +kernel), by decide +kernel⟩
theorem km_Jx4a65c_123 : Cond.methodLink RJx4a65c 123 yJx4a65c_elementData_915e3 ∈ Tg := List.mem_filter.mpr ⟨List.mem_of_getElem? (i := 553) (by decide +kernel), by decide +kernel⟩
theorem ki_Jx4a65c_elementData_915e3 : Cond.instanceMethod yJx4a65c_elementData_915e3 ∈ Tg := List.mem_filter.mpr ⟨List.mem_of_getElem? (i := 554) (by decide +kernel), by decide +kernel⟩
theorem kl_Jx4a65c_elementData_915e3 : Cond.selects RJx4a65c yJx4a65c_elementData_915e3 yJx4a65c_elementData_915e3 ∈ Tg := List.mem_filter.mpr ⟨List.mem_of_getElem? (i := 555) (by decide +kernel), by decide +kernel⟩
theorem kc_Jx4a65c_elementData_915e3 : Cond.code yJx4a65c_elementData_915e3 cJx4a65c_elementData_915e3 2 (some (.object "java/lang/Object")) ∈ Tg := List.mem_filter.mpr ⟨List.mem_of_getElem? (i := 556) (by decide +kernel), by decide +kernel⟩
theorem kC_X4_141 : Cond.classLink RX4 141 RX0 ∈ Tg := List.mem_filter.mpr ⟨List.mem_of_getElem? (i := 557) (by decide +kernel), by decide +kernel⟩
theorem km_X4_143 : Cond.methodLink RX4 143 yX4_doAct ∈ Tg := List.mem_filter.mpr ⟨List.mem_of_getElem? (i := 558) (by decide +kernel), by decide +kernel⟩
theorem ki_X4_doAct : Cond.instanceMethod yX4_doAct ∈ Tg := List.mem_filter.mpr ⟨List.mem_of_getElem? (i := 560) (by decide +kernel), by decide +kernel⟩
theorem kc_X4_doAct : Cond.code yX4_doAct cX4_doAct 4 (some (.object "StepBudgets$Outcome")) ∈ Tg := List.mem_filter.mpr ⟨List.mem_of_getElem? (i := 561) (by decide +kernel), by decide +kernel⟩
theorem km_X4_207 : Cond.methodLink RX4 207 yX0_kind ∈ Tg := List.mem_filter.mpr ⟨List.mem_of_getElem? (i := 562) (by decide +kernel), by decide +kernel⟩
theorem ki_X0_kind : Cond.instanceMethod yX0_kind ∈ Tg := List.mem_filter.mpr ⟨List.mem_of_getElem? (i := 563) (by decide +kernel), by decide +kernel⟩
theorem kl_X0_kind : Cond.selects RX0 yX0_kind yX0_kind ∈ Tg := List.mem_filter.mpr ⟨List.mem_of_getElem? (i := 564) (by decide +kernel), by decide +kernel⟩
theorem kc_X0_kind : Cond.code yX0_kind cX0_kind 1 (some .int) ∈ Tg := List.mem_filter.mpr ⟨List.mem_of_getElem? (i := 565) (by decide +kernel), by decide +kernel⟩
theorem km_X4_210 : Cond.methodLink RX4 210 yX0_a ∈ Tg := List.mem_filter.mpr ⟨List.mem_of_getElem? (i := 566) (by decide +kernel), by decide +kernel⟩
theorem ki_X0_a : Cond.instanceMethod yX0_a ∈ Tg := List.mem_filter.mpr ⟨List.mem_of_getElem? (i := 567) (by decide +kernel), by decide +kernel⟩
theorem kl_X0_a : Cond.selects RX0 yX0_a yX0_a ∈ Tg := List.mem_filter.mpr ⟨List.mem_of_getElem? (i := 568) (by decide +kernel), by decide +kernel⟩
theorem kc_X0_a : Cond.code yX0_a cX0_a 1 (some .int) ∈ Tg := List.mem_filter.mpr ⟨List.mem_of_getElem? (i := 569) (by decide +kernel), by decide +kernel⟩
theorem km_X4_213 : Cond.methodLink RX4 213 yX0_b ∈ Tg := List.mem_filter.mpr ⟨List.mem_of_getElem? (i := 570) (by decide +kernel), by decide +kernel⟩
theorem ki_X0_b : Cond.instanceMethod yX0_b ∈ Tg := List.mem_filter.mpr ⟨List.mem_of_getElem? (i := 571) (by decide +kernel), by decide +kernel⟩
theorem kl_X0_b : Cond.selects RX0 yX0_b yX0_b ∈ Tg := List.mem_filter.mpr ⟨List.mem_of_getElem? (i := 572) (by decide +kernel), by decide +kernel⟩
theorem kc_X0_b : Cond.code yX0_b cX0_b 1 (some .int) ∈ Tg := List.mem_filter.mpr ⟨List.mem_of_getElem? (i := 573) (by decide +kernel), by decide +kernel⟩
theorem km_X4_216 : Cond.methodLink RX4 216 yX4_setNumber ∈ Tg := List.mem_filter.mpr ⟨List.mem_of_getElem? (i := 574) (by decide +kernel), by decide +kernel⟩
theorem ki_X4_setNumber : Cond.instanceMethod yX4_setNumber ∈ Tg := List.mem_filter.mpr ⟨List.mem_of_getElem? (i := 576) (by decide +kernel), by decide +kernel⟩
theorem kc_X4_setNumber : Cond.code yX4_setNumber cX4_setNumber 4 (some (.object "StepBudgets$Outcome")) ∈ Tg := List.mem_filter.mpr ⟨List.mem_of_getElem? (i := 577) (by decide +kernel), by decide +kernel⟩
theorem km_X4_219 : Cond.methodLink RX4 219 yX4_reckon ∈ Tg := List.mem_filter.mpr ⟨List.mem_of_getElem? (i := 578) (by decide +kernel), by decide +kernel⟩
theorem ki_X4_reckon : Cond.instanceMethod yX4_reckon ∈ Tg := List.mem_filter.mpr ⟨List.mem_of_getElem? (i := 580) (by decide +kernel), by decide +kernel⟩
theorem kc_X4_reckon : Cond.code yX4_reckon cX4_reckon 5 (some (.object "StepBudgets$Outcome")) ∈ Tg := List.mem_filter.mpr ⟨List.mem_of_getElem? (i := 581) (by decide +kernel), by decide +kernel⟩
theorem km_X4_247 : Cond.methodLink RX4 247 yX0_c ∈ Tg := List.mem_filter.mpr ⟨List.mem_of_getElem? (i := 582) (by decide +kernel), by decide +kernel⟩
theorem ki_X0_c : Cond.instanceMethod yX0_c ∈ Tg := List.mem_filter.mpr ⟨List.mem_of_getElem? (i := 583) (by decide +kernel), by decide +kernel⟩
theorem kl_X0_c : Cond.selects RX0 yX0_c yX0_c ∈ Tg := List.mem_filter.mpr ⟨List.mem_of_getElem? (i := 584) (by decide +kernel), by decide +kernel⟩
theorem kc_X0_c : Cond.code yX0_c cX0_c 1 (some .int) ∈ Tg := List.mem_filter.mpr ⟨List.mem_of_getElem? (i := 585) (by decide +kernel), by decide +kernel⟩
theorem km_X4_223 : Cond.methodLink RX4 223 yX4_divide ∈ Tg := List.mem_filter.mpr ⟨List.mem_of_getElem? (i := 586) (by decide +kernel), by decide +kernel⟩
theorem ki_X4_divide : Cond.instanceMethod yX4_divide ∈ Tg := List.mem_filter.mpr ⟨List.mem_of_getElem? (i := 588) (by decide +kernel), by decide +kernel⟩
theorem kc_X4_divide : Cond.code yX4_divide cX4_divide 5 (some (.object "StepBudgets$Outcome")) ∈ Tg := List.mem_filter.mpr ⟨List.mem_of_getElem? (i := 589) (by decide +kernel), by decide +kernel⟩
theorem km_X4_226 : Cond.methodLink RX4 226 yX4_jump ∈ Tg := List.mem_filter.mpr ⟨List.mem_of_getElem? (i := 590) (by decide +kernel), by decide +kernel⟩
theorem ki_X4_jump : Cond.instanceMethod yX4_jump ∈ Tg := List.mem_filter.mpr ⟨List.mem_of_getElem? (i := 592) (by decide +kernel), by decide +kernel⟩
theorem kc_X4_jump : Cond.code yX4_jump cX4_jump 4 (some (.object "StepBudgets$Outcome")) ∈ Tg := List.mem_filter.mpr ⟨List.mem_of_getElem? (i := 593) (by decide +kernel), by decide +kernel⟩
theorem km_X4_229 : Cond.methodLink RX4 229 yX4_newRow ∈ Tg := List.mem_filter.mpr ⟨List.mem_of_getElem? (i := 594) (by decide +kernel), by decide +kernel⟩
theorem ki_X4_newRow : Cond.instanceMethod yX4_newRow ∈ Tg := List.mem_filter.mpr ⟨List.mem_of_getElem? (i := 596) (by decide +kernel), by decide +kernel⟩
theorem kc_X4_newRow : Cond.code yX4_newRow cX4_newRow 6 (some (.object "StepBudgets$Outcome")) ∈ Tg := List.mem_filter.mpr ⟨List.mem_of_getElem? (i := 597) (by decide +kernel), by decide +kernel⟩
theorem km_X4_250 : Cond.methodLink RX4 250 yX9_add ∈ Tg := List.mem_filter.mpr ⟨List.mem_of_getElem? (i := 598) (by decide +kernel), by decide +kernel⟩
theorem ki_X9_add : Cond.instanceMethod yX9_add ∈ Tg := List.mem_filter.mpr ⟨List.mem_of_getElem? (i := 599) (by decide +kernel), by decide +kernel⟩
theorem kl_X9_add : Cond.selects RX9 yX9_add yX9_add ∈ Tg := List.mem_filter.mpr ⟨List.mem_of_getElem? (i := 600) (by decide +kernel), by decide +kernel⟩
theorem kc_X9_add : Cond.code yX9_add cX9_add 3 (some .int) ∈ Tg := List.mem_filter.mpr ⟨List.mem_of_getElem? (i := 601) (by decide +kernel), by decide +kernel⟩
theorem km_X9_31 : Cond.methodLink RX9 31 yJ7_fill_fda19 ∈ Tg := List.mem_filter.mpr ⟨List.mem_of_getElem? (i := 602) (by decide +kernel), by decide +kernel⟩
theorem ks_J7_fill_fda19 : Cond.static yJ7_fill_fda19 ∈ Tg := List.mem_filter.mpr ⟨List.mem_of_getElem? (i := 603) (by decide +kernel), by decide +kernel⟩
theorem kc_J7_fill_fda19 : Cond.code yJ7_fill_fda19 cJ7_fill_fda19 5 none ∈ Tg := List.mem_filter.mpr ⟨List.mem_of_getElem? (i := 604) (by decide +kernel), by decide +kernel⟩
theorem km_J7_13 : Cond.methodLink RJ7 13 yJ7_rangeCheck_23922 ∈ Tg := List.mem_filter.mpr ⟨List.mem_of_getElem? (i := 605) (by decide +kernel), by decide +kernel⟩
theorem ks_J7_rangeCheck_23922 : Cond.static yJ7_rangeCheck_23922 ∈ Tg := List.mem_filter.mpr ⟨List.mem_of_getElem? (i := 606) (by decide +kernel), by decide +kernel⟩
theorem kc_J7_rangeCheck_23922 : Cond.code yJ7_rangeCheck_23922 cJ7_rangeCheck_23922 3 none ∈ Tg := List.mem_filter.mpr ⟨List.mem_of_getElem? (i := 607) (by decide +kernel), by decide +kernel⟩
theorem km_X4_232 : Cond.methodLink RX4 232 yX4_putPlace ∈ Tg := List.mem_filter.mpr ⟨List.mem_of_getElem? (i := 608) (by decide +kernel), by decide +kernel⟩
theorem ki_X4_putPlace : Cond.instanceMethod yX4_putPlace ∈ Tg := List.mem_filter.mpr ⟨List.mem_of_getElem? (i := 610) (by decide +kernel), by decide +kernel⟩
theorem kc_X4_putPlace : Cond.code yX4_putPlace cX4_putPlace 6 (some (.object "StepBudgets$Outcome")) ∈ Tg := List.mem_filter.mpr ⟨List.mem_of_getElem? (i := 611) (by decide +kernel), by decide +kernel⟩
theorem km_X4_253 : Cond.methodLink RX4 253 yX9_placeFault ∈ Tg := List.mem_filter.mpr ⟨List.mem_of_getElem? (i := 612) (by decide +kernel), by decide +kernel⟩
theorem ki_X9_placeFault : Cond.instanceMethod yX9_placeFault ∈ Tg := List.mem_filter.mpr ⟨List.mem_of_getElem? (i := 613) (by decide +kernel), by decide +kernel⟩
theorem kl_X9_placeFault : Cond.selects RX9 yX9_placeFault yX9_placeFault ∈ Tg := List.mem_filter.mpr ⟨List.mem_of_getElem? (i := 614) (by decide +kernel), by decide +kernel⟩
theorem kc_X9_placeFault : Cond.code yX9_placeFault cX9_placeFault 4 (some .int) ∈ Tg := List.mem_filter.mpr ⟨List.mem_of_getElem? (i := 615) (by decide +kernel), by decide +kernel⟩
theorem km_X9_41 : Cond.methodLink RX9 41 yX9_has ∈ Tg := List.mem_filter.mpr ⟨List.mem_of_getElem? (i := 616) (by decide +kernel), by decide +kernel⟩
theorem ki_X9_has : Cond.instanceMethod yX9_has ∈ Tg := List.mem_filter.mpr ⟨List.mem_of_getElem? (i := 618) (by decide +kernel), by decide +kernel⟩
theorem kc_X9_has : Cond.code yX9_has cX9_has 2 (some .boolean) ∈ Tg := List.mem_filter.mpr ⟨List.mem_of_getElem? (i := 619) (by decide +kernel), by decide +kernel⟩
theorem km_X4_257 : Cond.methodLink RX4 257 yX0_d ∈ Tg := List.mem_filter.mpr ⟨List.mem_of_getElem? (i := 621) (by decide +kernel), by decide +kernel⟩
theorem ki_X0_d : Cond.instanceMethod yX0_d ∈ Tg := List.mem_filter.mpr ⟨List.mem_of_getElem? (i := 622) (by decide +kernel), by decide +kernel⟩
theorem kl_X0_d : Cond.selects RX0 yX0_d yX0_d ∈ Tg := List.mem_filter.mpr ⟨List.mem_of_getElem? (i := 623) (by decide +kernel), by decide +kernel⟩
theorem kc_X0_d : Cond.code yX0_d cX0_d 1 (some .int) ∈ Tg := List.mem_filter.mpr ⟨List.mem_of_getElem? (i := 624) (by decide +kernel), by decide +kernel⟩
theorem km_X4_260 : Cond.methodLink RX4 260 yX9_put ∈ Tg := List.mem_filter.mpr ⟨List.mem_of_getElem? (i := 625) (by decide +kernel), by decide +kernel⟩
theorem ki_X9_put : Cond.instanceMethod yX9_put ∈ Tg := List.mem_filter.mpr ⟨List.mem_of_getElem? (i := 626) (by decide +kernel), by decide +kernel⟩
theorem kl_X9_put : Cond.selects RX9 yX9_put yX9_put ∈ Tg := List.mem_filter.mpr ⟨List.mem_of_getElem? (i := 627) (by decide +kernel), by decide +kernel⟩
theorem kc_X9_put : Cond.code yX9_put cX9_put 4 none ∈ Tg := List.mem_filter.mpr ⟨List.mem_of_getElem? (i := 628) (by decide +kernel), by decide +kernel⟩
theorem km_X4_235 : Cond.methodLink RX4 235 yX4_getPlace ∈ Tg := List.mem_filter.mpr ⟨List.mem_of_getElem? (i := 629) (by decide +kernel), by decide +kernel⟩
theorem ki_X4_getPlace : Cond.instanceMethod yX4_getPlace ∈ Tg := List.mem_filter.mpr ⟨List.mem_of_getElem? (i := 631) (by decide +kernel), by decide +kernel⟩
theorem kc_X4_getPlace : Cond.code yX4_getPlace cX4_getPlace 6 (some (.object "StepBudgets$Outcome")) ∈ Tg := List.mem_filter.mpr ⟨List.mem_of_getElem? (i := 632) (by decide +kernel), by decide +kernel⟩
theorem km_X4_263 : Cond.methodLink RX4 263 yX9_get ∈ Tg := List.mem_filter.mpr ⟨List.mem_of_getElem? (i := 633) (by decide +kernel), by decide +kernel⟩
theorem ki_X9_get : Cond.instanceMethod yX9_get ∈ Tg := List.mem_filter.mpr ⟨List.mem_of_getElem? (i := 634) (by decide +kernel), by decide +kernel⟩
theorem kl_X9_get : Cond.selects RX9 yX9_get yX9_get ∈ Tg := List.mem_filter.mpr ⟨List.mem_of_getElem? (i := 635) (by decide +kernel), by decide +kernel⟩
theorem kc_X9_get : Cond.code yX9_get cX9_get 3 (some .int) ∈ Tg := List.mem_filter.mpr ⟨List.mem_of_getElem? (i := 636) (by decide +kernel), by decide +kernel⟩
theorem km_X4_238 : Cond.methodLink RX4 238 yX4_tellSize ∈ Tg := List.mem_filter.mpr ⟨List.mem_of_getElem? (i := 637) (by decide +kernel), by decide +kernel⟩
theorem ki_X4_tellSize : Cond.instanceMethod yX4_tellSize ∈ Tg := List.mem_filter.mpr ⟨List.mem_of_getElem? (i := 639) (by decide +kernel), by decide +kernel⟩
theorem kc_X4_tellSize : Cond.code yX4_tellSize cX4_tellSize 4 (some (.object "StepBudgets$Outcome")) ∈ Tg := List.mem_filter.mpr ⟨List.mem_of_getElem? (i := 640) (by decide +kernel), by decide +kernel⟩
theorem km_X4_265 : Cond.methodLink RX4 265 yX9_size ∈ Tg := List.mem_filter.mpr ⟨List.mem_of_getElem? (i := 641) (by decide +kernel), by decide +kernel⟩
theorem ki_X9_size : Cond.instanceMethod yX9_size ∈ Tg := List.mem_filter.mpr ⟨List.mem_of_getElem? (i := 642) (by decide +kernel), by decide +kernel⟩
theorem kl_X9_size : Cond.selects RX9 yX9_size yX9_size ∈ Tg := List.mem_filter.mpr ⟨List.mem_of_getElem? (i := 643) (by decide +kernel), by decide +kernel⟩
theorem kc_X9_size : Cond.code yX9_size cX9_size 2 (some .int) ∈ Tg := List.mem_filter.mpr ⟨List.mem_of_getElem? (i := 644) (by decide +kernel), by decide +kernel⟩
theorem km_X4_241 : Cond.methodLink RX4 241 yX4_copyPlaces ∈ Tg := List.mem_filter.mpr ⟨List.mem_of_getElem? (i := 645) (by decide +kernel), by decide +kernel⟩
theorem ki_X4_copyPlaces : Cond.instanceMethod yX4_copyPlaces ∈ Tg := List.mem_filter.mpr ⟨List.mem_of_getElem? (i := 647) (by decide +kernel), by decide +kernel⟩
theorem kc_X4_copyPlaces : Cond.code yX4_copyPlaces cX4_copyPlaces 7 (some (.object "StepBudgets$Outcome")) ∈ Tg := List.mem_filter.mpr ⟨List.mem_of_getElem? (i := 648) (by decide +kernel), by decide +kernel⟩
theorem km_X4_268 : Cond.methodLink RX4 268 yX9_copyFault ∈ Tg := List.mem_filter.mpr ⟨List.mem_of_getElem? (i := 649) (by decide +kernel), by decide +kernel⟩
theorem ki_X9_copyFault : Cond.instanceMethod yX9_copyFault ∈ Tg := List.mem_filter.mpr ⟨List.mem_of_getElem? (i := 650) (by decide +kernel), by decide +kernel⟩
theorem kl_X9_copyFault : Cond.selects RX9 yX9_copyFault yX9_copyFault ∈ Tg := List.mem_filter.mpr ⟨List.mem_of_getElem? (i := 651) (by decide +kernel), by decide +kernel⟩
theorem kc_X9_copyFault : Cond.code yX9_copyFault cX9_copyFault 4 (some .int) ∈ Tg := List.mem_filter.mpr ⟨List.mem_of_getElem? (i := 652) (by decide +kernel), by decide +kernel⟩
theorem km_X4_271 : Cond.methodLink RX4 271 yX9_copy ∈ Tg := List.mem_filter.mpr ⟨List.mem_of_getElem? (i := 653) (by decide +kernel), by decide +kernel⟩
theorem ki_X9_copy : Cond.instanceMethod yX9_copy ∈ Tg := List.mem_filter.mpr ⟨List.mem_of_getElem? (i := 654) (by decide +kernel), by decide +kernel⟩
theorem kl_X9_copy : Cond.selects RX9 yX9_copy yX9_copy ∈ Tg := List.mem_filter.mpr ⟨List.mem_of_getElem? (i := 655) (by decide +kernel), by decide +kernel⟩
theorem kc_X9_copy : Cond.code yX9_copy cX9_copy 4 none ∈ Tg := List.mem_filter.mpr ⟨List.mem_of_getElem? (i := 656) (by decide +kernel), by decide +kernel⟩
theorem km_X9_45 : Cond.methodLink RX9 45 ⟨"java/lang/System", "arraycopy", "(Ljava/lang/Object;ILjava/lang/Object;II)V"⟩ ∈ Tg := List.mem_filter.mpr ⟨List.mem_of_getElem? (i := 657) (by decide +kernel), by decide +kernel⟩
theorem km_X4_244 : Cond.methodLink RX4 244 yX4_callMethod ∈ Tg := List.mem_filter.mpr ⟨List.mem_of_getElem? (i := 658) (by decide +kernel), by decide +kernel⟩
theorem ki_X4_callMethod : Cond.instanceMethod yX4_callMethod ∈ Tg := List.mem_filter.mpr ⟨List.mem_of_getElem? (i := 660) (by decide +kernel), by decide +kernel⟩
theorem kc_X4_callMethod : Cond.code yX4_callMethod cX4_callMethod 5 (some (.object "StepBudgets$Outcome")) ∈ Tg := List.mem_filter.mpr ⟨List.mem_of_getElem? (i := 661) (by decide +kernel), by decide +kernel⟩
theorem kf_X4_59 : Cond.fieldLink RX4 59 "StepBudgets$Outcome" "GAVE" "LStepBudgets$Outcome;" ∈ Tg := List.mem_filter.mpr ⟨List.mem_of_getElem? (i := 662) (by decide +kernel), by decide +kernel⟩
theorem km_X4_147 : Cond.methodLink RX4 147 yX4_goOn ∈ Tg := List.mem_filter.mpr ⟨List.mem_of_getElem? (i := 664) (by decide +kernel), by decide +kernel⟩
theorem ki_X4_goOn : Cond.instanceMethod yX4_goOn ∈ Tg := List.mem_filter.mpr ⟨List.mem_of_getElem? (i := 666) (by decide +kernel), by decide +kernel⟩
theorem kc_X4_goOn : Cond.code yX4_goOn cX4_goOn 6 (some (.object "StepBudgets$Outcome")) ∈ Tg := List.mem_filter.mpr ⟨List.mem_of_getElem? (i := 667) (by decide +kernel), by decide +kernel⟩
theorem km_X4_157 : Cond.methodLink RX4 157 yX4_leave ∈ Tg := List.mem_filter.mpr ⟨List.mem_of_getElem? (i := 668) (by decide +kernel), by decide +kernel⟩
theorem ki_X4_leave : Cond.instanceMethod yX4_leave ∈ Tg := List.mem_filter.mpr ⟨List.mem_of_getElem? (i := 670) (by decide +kernel), by decide +kernel⟩
theorem kc_X4_leave : Cond.code yX4_leave cX4_leave 8 (some (.object "StepBudgets$Outcome")) ∈ Tg := List.mem_filter.mpr ⟨List.mem_of_getElem? (i := 671) (by decide +kernel), by decide +kernel⟩
theorem kC_X4_183 : Cond.classLink RX4 183 RX1 ∈ Tg := List.mem_filter.mpr ⟨List.mem_of_getElem? (i := 672) (by decide +kernel), by decide +kernel⟩
theorem km_X4_185 : Cond.methodLink RX4 185 yX1_holds ∈ Tg := List.mem_filter.mpr ⟨List.mem_of_getElem? (i := 673) (by decide +kernel), by decide +kernel⟩
theorem ki_X1_holds : Cond.instanceMethod yX1_holds ∈ Tg := List.mem_filter.mpr ⟨List.mem_of_getElem? (i := 674) (by decide +kernel), by decide +kernel⟩
theorem kl_X1_holds : Cond.selects RX1 yX1_holds yX1_holds ∈ Tg := List.mem_filter.mpr ⟨List.mem_of_getElem? (i := 675) (by decide +kernel), by decide +kernel⟩
theorem kc_X1_holds : Cond.code yX1_holds cX1_holds 2 (some .boolean) ∈ Tg := List.mem_filter.mpr ⟨List.mem_of_getElem? (i := 676) (by decide +kernel), by decide +kernel⟩
theorem km_X4_189 : Cond.methodLink RX4 189 yX4_cleanFrame ∈ Tg := List.mem_filter.mpr ⟨List.mem_of_getElem? (i := 677) (by decide +kernel), by decide +kernel⟩
theorem ki_X4_cleanFrame : Cond.instanceMethod yX4_cleanFrame ∈ Tg := List.mem_filter.mpr ⟨List.mem_of_getElem? (i := 679) (by decide +kernel), by decide +kernel⟩
theorem kc_X4_cleanFrame : Cond.code yX4_cleanFrame cX4_cleanFrame 6 (some (.object "StepBudgets$Outcome")) ∈ Tg := List.mem_filter.mpr ⟨List.mem_of_getElem? (i := 680) (by decide +kernel), by decide +kernel⟩
theorem km_X4_195 : Cond.methodLink RX4 195 yX1_by ∈ Tg := List.mem_filter.mpr ⟨List.mem_of_getElem? (i := 681) (by decide +kernel), by decide +kernel⟩
theorem ki_X1_by : Cond.instanceMethod yX1_by ∈ Tg := List.mem_filter.mpr ⟨List.mem_of_getElem? (i := 682) (by decide +kernel), by decide +kernel⟩
theorem kl_X1_by : Cond.selects RX1 yX1_by yX1_by ∈ Tg := List.mem_filter.mpr ⟨List.mem_of_getElem? (i := 683) (by decide +kernel), by decide +kernel⟩
theorem kc_X1_by : Cond.code yX1_by cX1_by 1 (some .int) ∈ Tg := List.mem_filter.mpr ⟨List.mem_of_getElem? (i := 684) (by decide +kernel), by decide +kernel⟩
theorem km_X4_200 : Cond.methodLink RX4 200 yX8_noteClean ∈ Tg := List.mem_filter.mpr ⟨List.mem_of_getElem? (i := 685) (by decide +kernel), by decide +kernel⟩
theorem ki_X8_noteClean : Cond.instanceMethod yX8_noteClean ∈ Tg := List.mem_filter.mpr ⟨List.mem_of_getElem? (i := 686) (by decide +kernel), by decide +kernel⟩
theorem kl_X8_noteClean : Cond.selects RX8 yX8_noteClean yX8_noteClean ∈ Tg := List.mem_filter.mpr ⟨List.mem_of_getElem? (i := 687) (by decide +kernel), by decide +kernel⟩
theorem kc_X8_noteClean : Cond.code yX8_noteClean cX8_noteClean 4 none ∈ Tg := List.mem_filter.mpr ⟨List.mem_of_getElem? (i := 688) (by decide +kernel), by decide +kernel⟩
theorem km_X4_151 : Cond.methodLink RX4 151 yX4_giveOut ∈ Tg := List.mem_filter.mpr ⟨List.mem_of_getElem? (i := 689) (by decide +kernel), by decide +kernel⟩
theorem ki_X4_giveOut : Cond.instanceMethod yX4_giveOut ∈ Tg := List.mem_filter.mpr ⟨List.mem_of_getElem? (i := 691) (by decide +kernel), by decide +kernel⟩
theorem kc_X4_giveOut : Cond.code yX4_giveOut cX4_giveOut 5 (some (.object "StepBudgets$Outcome")) ∈ Tg := List.mem_filter.mpr ⟨List.mem_of_getElem? (i := 692) (by decide +kernel), by decide +kernel⟩
theorem km_X4_154 : Cond.methodLink RX4 154 yX4_answerThrow ∈ Tg := List.mem_filter.mpr ⟨List.mem_of_getElem? (i := 693) (by decide +kernel), by decide +kernel⟩
theorem ki_X4_answerThrow : Cond.instanceMethod yX4_answerThrow ∈ Tg := List.mem_filter.mpr ⟨List.mem_of_getElem? (i := 695) (by decide +kernel), by decide +kernel⟩
theorem kc_X4_answerThrow : Cond.code yX4_answerThrow cX4_answerThrow 8 (some (.object "StepBudgets$Outcome")) ∈ Tg := List.mem_filter.mpr ⟨List.mem_of_getElem? (i := 696) (by decide +kernel), by decide +kernel⟩
theorem km_X4_160 : Cond.methodLink RX4 160 yX6_guardFor ∈ Tg := List.mem_filter.mpr ⟨List.mem_of_getElem? (i := 697) (by decide +kernel), by decide +kernel⟩
theorem ki_X6_guardFor : Cond.instanceMethod yX6_guardFor ∈ Tg := List.mem_filter.mpr ⟨List.mem_of_getElem? (i := 698) (by decide +kernel), by decide +kernel⟩
theorem kl_X6_guardFor : Cond.selects RX6 yX6_guardFor yX6_guardFor ∈ Tg := List.mem_filter.mpr ⟨List.mem_of_getElem? (i := 699) (by decide +kernel), by decide +kernel⟩
theorem kc_X6_guardFor : Cond.code yX6_guardFor cX6_guardFor 4 (some .int) ∈ Tg := List.mem_filter.mpr ⟨List.mem_of_getElem? (i := 700) (by decide +kernel), by decide +kernel⟩
theorem km_X6_27 : Cond.methodLink RX6 27 yJx4a65c_size_8abf5 ∈ Tg := List.mem_filter.mpr ⟨List.mem_of_getElem? (i := 701) (by decide +kernel), by decide +kernel⟩
theorem km_X6_31 : Cond.methodLink RX6 31 yJx4a65c_get_915e3 ∈ Tg := List.mem_filter.mpr ⟨List.mem_of_getElem? (i := 702) (by decide +kernel), by decide +kernel⟩
theorem kC_X6_35 : Cond.classLink RX6 35 RX3 ∈ Tg := List.mem_filter.mpr ⟨List.mem_of_getElem? (i := 703) (by decide +kernel), by decide +kernel⟩
theorem km_X6_37 : Cond.methodLink RX6 37 yX3_catches ∈ Tg := List.mem_filter.mpr ⟨List.mem_of_getElem? (i := 704) (by decide +kernel), by decide +kernel⟩
theorem ki_X3_catches : Cond.instanceMethod yX3_catches ∈ Tg := List.mem_filter.mpr ⟨List.mem_of_getElem? (i := 705) (by decide +kernel), by decide +kernel⟩
theorem kl_X3_catches : Cond.selects RX3 yX3_catches yX3_catches ∈ Tg := List.mem_filter.mpr ⟨List.mem_of_getElem? (i := 706) (by decide +kernel), by decide +kernel⟩
theorem kc_X3_catches : Cond.code yX3_catches cX3_catches 3 (some .boolean) ∈ Tg := List.mem_filter.mpr ⟨List.mem_of_getElem? (i := 707) (by decide +kernel), by decide +kernel⟩
theorem km_X4_164 : Cond.methodLink RX4 164 yX4_throwOut ∈ Tg := List.mem_filter.mpr ⟨List.mem_of_getElem? (i := 708) (by decide +kernel), by decide +kernel⟩
theorem ki_X4_throwOut : Cond.instanceMethod yX4_throwOut ∈ Tg := List.mem_filter.mpr ⟨List.mem_of_getElem? (i := 710) (by decide +kernel), by decide +kernel⟩
theorem kc_X4_throwOut : Cond.code yX4_throwOut cX4_throwOut 5 (some (.object "StepBudgets$Outcome")) ∈ Tg := List.mem_filter.mpr ⟨List.mem_of_getElem? (i := 711) (by decide +kernel), by decide +kernel⟩
theorem kC_X4_172 : Cond.classLink RX4 172 RX3 ∈ Tg := List.mem_filter.mpr ⟨List.mem_of_getElem? (i := 712) (by decide +kernel), by decide +kernel⟩
theorem km_X4_174 : Cond.methodLink RX4 174 yX3_at ∈ Tg := List.mem_filter.mpr ⟨List.mem_of_getElem? (i := 713) (by decide +kernel), by decide +kernel⟩
theorem ki_X3_at : Cond.instanceMethod yX3_at ∈ Tg := List.mem_filter.mpr ⟨List.mem_of_getElem? (i := 714) (by decide +kernel), by decide +kernel⟩
theorem kl_X3_at : Cond.selects RX3 yX3_at yX3_at ∈ Tg := List.mem_filter.mpr ⟨List.mem_of_getElem? (i := 715) (by decide +kernel), by decide +kernel⟩
theorem kc_X3_at : Cond.code yX3_at cX3_at 1 (some .int) ∈ Tg := List.mem_filter.mpr ⟨List.mem_of_getElem? (i := 716) (by decide +kernel), by decide +kernel⟩
theorem kf_X4_125 : Cond.fieldLink RX4 125 "StepBudgets$Outcome" "STOPPED" "LStepBudgets$Outcome;" ∈ Tg := List.mem_filter.mpr ⟨List.mem_of_getElem? (i := 717) (by decide +kernel), by decide +kernel⟩
theorem km_X4_128 : Cond.methodLink RX4 128 yX4_cleanStopped ∈ Tg := List.mem_filter.mpr ⟨List.mem_of_getElem? (i := 718) (by decide +kernel), by decide +kernel⟩
theorem ki_X4_cleanStopped : Cond.instanceMethod yX4_cleanStopped ∈ Tg := List.mem_filter.mpr ⟨List.mem_of_getElem? (i := 720) (by decide +kernel), by decide +kernel⟩
theorem kc_X4_cleanStopped : Cond.code yX4_cleanStopped cX4_cleanStopped 7 (some (.object "StepBudgets$Outcome")) ∈ Tg := List.mem_filter.mpr ⟨List.mem_of_getElem? (i := 721) (by decide +kernel), by decide +kernel⟩
theorem kf_X4_192 : Cond.fieldLink RX4 192 "StepBudgets$Outcome" "ENDED" "LStepBudgets$Outcome;" ∈ Tg := List.mem_filter.mpr ⟨List.mem_of_getElem? (i := 722) (by decide +kernel), by decide +kernel⟩
theorem km_L_42 : Cond.methodLink RL 42 yX10_latest ∈ Tg := List.mem_filter.mpr ⟨List.mem_of_getElem? (i := 723) (by decide +kernel), by decide +kernel⟩
theorem ki_X10_latest : Cond.instanceMethod yX10_latest ∈ Tg := List.mem_filter.mpr ⟨List.mem_of_getElem? (i := 724) (by decide +kernel), by decide +kernel⟩
theorem kl_X10_latest : Cond.selects RX10 yX10_latest yX10_latest ∈ Tg := List.mem_filter.mpr ⟨List.mem_of_getElem? (i := 725) (by decide +kernel), by decide +kernel⟩
theorem kc_X10_latest : Cond.code yX10_latest cX10_latest 2 (some .int) ∈ Tg := List.mem_filter.mpr ⟨List.mem_of_getElem? (i := 726) (by decide +kernel), by decide +kernel⟩
theorem km_L_46 : Cond.methodLink RL 46 yX10_cleaned ∈ Tg := List.mem_filter.mpr ⟨List.mem_of_getElem? (i := 727) (by decide +kernel), by decide +kernel⟩
theorem ki_X10_cleaned : Cond.instanceMethod yX10_cleaned ∈ Tg := List.mem_filter.mpr ⟨List.mem_of_getElem? (i := 728) (by decide +kernel), by decide +kernel⟩
theorem kl_X10_cleaned : Cond.selects RX10 yX10_cleaned yX10_cleaned ∈ Tg := List.mem_filter.mpr ⟨List.mem_of_getElem? (i := 729) (by decide +kernel), by decide +kernel⟩
theorem kc_X10_cleaned : Cond.code yX10_cleaned cX10_cleaned 3 (some .int) ∈ Tg := List.mem_filter.mpr ⟨List.mem_of_getElem? (i := 730) (by decide +kernel), by decide +kernel⟩
theorem km_X10_117 : Cond.methodLink RX10 117 yX8_cleanPart ∈ Tg := List.mem_filter.mpr ⟨List.mem_of_getElem? (i := 731) (by decide +kernel), by decide +kernel⟩
theorem ki_X8_cleanPart : Cond.instanceMethod yX8_cleanPart ∈ Tg := List.mem_filter.mpr ⟨List.mem_of_getElem? (i := 732) (by decide +kernel), by decide +kernel⟩
theorem kl_X8_cleanPart : Cond.selects RX8 yX8_cleanPart yX8_cleanPart ∈ Tg := List.mem_filter.mpr ⟨List.mem_of_getElem? (i := 733) (by decide +kernel), by decide +kernel⟩
theorem kc_X8_cleanPart : Cond.code yX8_cleanPart cX8_cleanPart 3 (some .int) ∈ Tg := List.mem_filter.mpr ⟨List.mem_of_getElem? (i := 734) (by decide +kernel), by decide +kernel⟩
theorem km_X8_40 : Cond.methodLink RX8 40 yJ9_min_7cf53 ∈ Tg := List.mem_filter.mpr ⟨List.mem_of_getElem? (i := 735) (by decide +kernel), by decide +kernel⟩
theorem km_L_51 : Cond.methodLink RL 51 yX10_told ∈ Tg := List.mem_filter.mpr ⟨List.mem_of_getElem? (i := 737) (by decide +kernel), by decide +kernel⟩
theorem ki_X10_told : Cond.instanceMethod yX10_told ∈ Tg := List.mem_filter.mpr ⟨List.mem_of_getElem? (i := 738) (by decide +kernel), by decide +kernel⟩
theorem kl_X10_told : Cond.selects RX10 yX10_told yX10_told ∈ Tg := List.mem_filter.mpr ⟨List.mem_of_getElem? (i := 739) (by decide +kernel), by decide +kernel⟩
theorem kc_X10_told : Cond.code yX10_told cX10_told 3 (some .int) ∈ Tg := List.mem_filter.mpr ⟨List.mem_of_getElem? (i := 740) (by decide +kernel), by decide +kernel⟩
theorem kC_L_10 : Cond.classLink RL 10 RX11 ∈ Tg := List.mem_filter.mpr ⟨List.mem_of_getElem? (i := 741) (by decide +kernel), by decide +kernel⟩
theorem kN_X11 : Cond.instantiable RX11 44 ∈ Tg := List.mem_filter.mpr ⟨List.mem_of_getElem? (i := 742) (by decide +kernel), by decide +kernel⟩
theorem km_L_12 : Cond.methodLink RL 12 yX11_init ∈ Tg := List.mem_filter.mpr ⟨List.mem_of_getElem? (i := 743) (by decide +kernel), by decide +kernel⟩
theorem ki_X11_init : Cond.instanceMethod yX11_init ∈ Tg := List.mem_filter.mpr ⟨List.mem_of_getElem? (i := 744) (by decide +kernel), by decide +kernel⟩
theorem kc_X11_init : Cond.code yX11_init cX11_init 1 none ∈ Tg := List.mem_filter.mpr ⟨List.mem_of_getElem? (i := 745) (by decide +kernel), by decide +kernel⟩
theorem km_X11_1 : Cond.methodLink RX11 1 objectInit ∈ Tg := List.mem_filter.mpr ⟨List.mem_of_getElem? (i := 746) (by decide +kernel), by decide +kernel⟩
theorem kk_X11_102 : Cond.constant RX11 102 (34000) ∈ Tg := List.mem_filter.mpr ⟨List.mem_of_getElem? (i := 747) (by decide +kernel), by decide +kernel⟩
theorem kf_X11_7 : Cond.fieldLink RX11 7 "StepBudgetsModel" "acts" "[I" ∈ Tg := List.mem_filter.mpr ⟨List.mem_of_getElem? (i := 748) (by decide +kernel), by decide +kernel⟩
theorem kf_X11_13 : Cond.fieldLink RX11 13 "StepBudgetsModel" "kind" "[I" ∈ Tg := List.mem_filter.mpr ⟨List.mem_of_getElem? (i := 749) (by decide +kernel), by decide +kernel⟩
theorem kf_X11_16 : Cond.fieldLink RX11 16 "StepBudgetsModel" "na" "[I" ∈ Tg := List.mem_filter.mpr ⟨List.mem_of_getElem? (i := 750) (by decide +kernel), by decide +kernel⟩
theorem kf_X11_19 : Cond.fieldLink RX11 19 "StepBudgetsModel" "nb" "[I" ∈ Tg := List.mem_filter.mpr ⟨List.mem_of_getElem? (i := 751) (by decide +kernel), by decide +kernel⟩
theorem kf_X11_22 : Cond.fieldLink RX11 22 "StepBudgetsModel" "nc" "[I" ∈ Tg := List.mem_filter.mpr ⟨List.mem_of_getElem? (i := 752) (by decide +kernel), by decide +kernel⟩
theorem kf_X11_25 : Cond.fieldLink RX11 25 "StepBudgetsModel" "nd" "[I" ∈ Tg := List.mem_filter.mpr ⟨List.mem_of_getElem? (i := 753) (by decide +kernel), by decide +kernel⟩
theorem kf_X11_28 : Cond.fieldLink RX11 28 "StepBudgetsModel" "guards" "[I" ∈ Tg := List.mem_filter.mpr ⟨List.mem_of_getElem? (i := 754) (by decide +kernel), by decide +kernel⟩
theorem kf_X11_31 : Cond.fieldLink RX11 31 "StepBudgetsModel" "guardFrom" "[I" ∈ Tg := List.mem_filter.mpr ⟨List.mem_of_getElem? (i := 755) (by decide +kernel), by decide +kernel⟩
theorem kf_X11_34 : Cond.fieldLink RX11 34 "StepBudgetsModel" "guardTo" "[I" ∈ Tg := List.mem_filter.mpr ⟨List.mem_of_getElem? (i := 756) (by decide +kernel), by decide +kernel⟩
theorem kf_X11_37 : Cond.fieldLink RX11 37 "StepBudgetsModel" "guardKind" "[I" ∈ Tg := List.mem_filter.mpr ⟨List.mem_of_getElem? (i := 757) (by decide +kernel), by decide +kernel⟩
theorem kf_X11_40 : Cond.fieldLink RX11 40 "StepBudgetsModel" "guardAt" "[I" ∈ Tg := List.mem_filter.mpr ⟨List.mem_of_getElem? (i := 758) (by decide +kernel), by decide +kernel⟩
theorem kf_X11_43 : Cond.fieldLink RX11 43 "StepBudgetsModel" "cleans" "[I" ∈ Tg := List.mem_filter.mpr ⟨List.mem_of_getElem? (i := 759) (by decide +kernel), by decide +kernel⟩
theorem kf_X11_46 : Cond.fieldLink RX11 46 "StepBudgetsModel" "cleanFrom" "[I" ∈ Tg := List.mem_filter.mpr ⟨List.mem_of_getElem? (i := 760) (by decide +kernel), by decide +kernel⟩
theorem kf_X11_49 : Cond.fieldLink RX11 49 "StepBudgetsModel" "cleanTo" "[I" ∈ Tg := List.mem_filter.mpr ⟨List.mem_of_getElem? (i := 761) (by decide +kernel), by decide +kernel⟩
theorem kf_X11_52 : Cond.fieldLink RX11 52 "StepBudgetsModel" "cleanBy" "[I" ∈ Tg := List.mem_filter.mpr ⟨List.mem_of_getElem? (i := 762) (by decide +kernel), by decide +kernel⟩
theorem kf_X11_55 : Cond.fieldLink RX11 55 "StepBudgetsModel" "reserve" "I" ∈ Tg := List.mem_filter.mpr ⟨List.mem_of_getElem? (i := 763) (by decide +kernel), by decide +kernel⟩
theorem kf_X11_119 : Cond.fieldLink RX11 119 "StepBudgetsModel" "depth" "I" ∈ Tg := List.mem_filter.mpr ⟨List.mem_of_getElem? (i := 764) (by decide +kernel), by decide +kernel⟩
theorem kf_X11_59 : Cond.fieldLink RX11 59 "StepBudgetsModel" "method" "[I" ∈ Tg := List.mem_filter.mpr ⟨List.mem_of_getElem? (i := 765) (by decide +kernel), by decide +kernel⟩
theorem kf_X11_62 : Cond.fieldLink RX11 62 "StepBudgetsModel" "pc" "[I" ∈ Tg := List.mem_filter.mpr ⟨List.mem_of_getElem? (i := 766) (by decide +kernel), by decide +kernel⟩
theorem kf_X11_65 : Cond.fieldLink RX11 65 "StepBudgetsModel" "number" "[I" ∈ Tg := List.mem_filter.mpr ⟨List.mem_of_getElem? (i := 767) (by decide +kernel), by decide +kernel⟩
theorem kf_X11_68 : Cond.fieldLink RX11 68 "StepBudgetsModel" "row" "[I" ∈ Tg := List.mem_filter.mpr ⟨List.mem_of_getElem? (i := 768) (by decide +kernel), by decide +kernel⟩
theorem kf_X11_71 : Cond.fieldLink RX11 71 "StepBudgetsModel" "isClean" "[Z" ∈ Tg := List.mem_filter.mpr ⟨List.mem_of_getElem? (i := 769) (by decide +kernel), by decide +kernel⟩
theorem kf_X11_75 : Cond.fieldLink RX11 75 "StepBudgetsModel" "leaves" "[Z" ∈ Tg := List.mem_filter.mpr ⟨List.mem_of_getElem? (i := 770) (by decide +kernel), by decide +kernel⟩
theorem kf_X11_78 : Cond.fieldLink RX11 78 "StepBudgetsModel" "leaveTo" "[I" ∈ Tg := List.mem_filter.mpr ⟨List.mem_of_getElem? (i := 771) (by decide +kernel), by decide +kernel⟩
theorem kf_X11_81 : Cond.fieldLink RX11 81 "StepBudgetsModel" "action" "[I" ∈ Tg := List.mem_filter.mpr ⟨List.mem_of_getElem? (i := 772) (by decide +kernel), by decide +kernel⟩
theorem kf_X11_84 : Cond.fieldLink RX11 84 "StepBudgetsModel" "value" "[I" ∈ Tg := List.mem_filter.mpr ⟨List.mem_of_getElem? (i := 773) (by decide +kernel), by decide +kernel⟩
theorem kf_X11_87 : Cond.fieldLink RX11 87 "StepBudgetsModel" "done" "[I" ∈ Tg := List.mem_filter.mpr ⟨List.mem_of_getElem? (i := 774) (by decide +kernel), by decide +kernel⟩
theorem kf_X11_90 : Cond.fieldLink RX11 90 "StepBudgetsModel" "at" "[I" ∈ Tg := List.mem_filter.mpr ⟨List.mem_of_getElem? (i := 775) (by decide +kernel), by decide +kernel⟩
theorem kf_X11_221 : Cond.fieldLink RX11 221 "StepBudgetsModel" "arrays" "I" ∈ Tg := List.mem_filter.mpr ⟨List.mem_of_getElem? (i := 776) (by decide +kernel), by decide +kernel⟩
theorem kf_X11_224 : Cond.fieldLink RX11 224 "StepBudgetsModel" "places" "I" ∈ Tg := List.mem_filter.mpr ⟨List.mem_of_getElem? (i := 777) (by decide +kernel), by decide +kernel⟩
theorem kf_X11_93 : Cond.fieldLink RX11 93 "StepBudgetsModel" "lane" "[I" ∈ Tg := List.mem_filter.mpr ⟨List.mem_of_getElem? (i := 778) (by decide +kernel), by decide +kernel⟩
theorem kf_X11_96 : Cond.fieldLink RX11 96 "StepBudgetsModel" "size" "[I" ∈ Tg := List.mem_filter.mpr ⟨List.mem_of_getElem? (i := 779) (by decide +kernel), by decide +kernel⟩
theorem kf_X11_99 : Cond.fieldLink RX11 99 "StepBudgetsModel" "first" "[I" ∈ Tg := List.mem_filter.mpr ⟨List.mem_of_getElem? (i := 780) (by decide +kernel), by decide +kernel⟩
theorem kf_X11_103 : Cond.fieldLink RX11 103 "StepBudgetsModel" "place" "[J" ∈ Tg := List.mem_filter.mpr ⟨List.mem_of_getElem? (i := 781) (by decide +kernel), by decide +kernel⟩
theorem kf_X11_153 : Cond.fieldLink RX11 153 "StepBudgetsModel" "budget" "I" ∈ Tg := List.mem_filter.mpr ⟨List.mem_of_getElem? (i := 782) (by decide +kernel), by decide +kernel⟩
theorem kf_X11_165 : Cond.fieldLink RX11 165 "StepBudgetsModel" "result" "I" ∈ Tg := List.mem_filter.mpr ⟨List.mem_of_getElem? (i := 783) (by decide +kernel), by decide +kernel⟩
theorem kf_X11_159 : Cond.fieldLink RX11 159 "StepBudgetsModel" "ended" "Z" ∈ Tg := List.mem_filter.mpr ⟨List.mem_of_getElem? (i := 784) (by decide +kernel), by decide +kernel⟩
theorem kf_X11_149 : Cond.fieldLink RX11 149 "StepBudgetsModel" "stopped" "Z" ∈ Tg := List.mem_filter.mpr ⟨List.mem_of_getElem? (i := 785) (by decide +kernel), by decide +kernel⟩
theorem kf_X11_162 : Cond.fieldLink RX11 162 "StepBudgetsModel" "cleaning" "I" ∈ Tg := List.mem_filter.mpr ⟨List.mem_of_getElem? (i := 786) (by decide +kernel), by decide +kernel⟩
theorem kf_X11_172 : Cond.fieldLink RX11 172 "StepBudgetsModel" "begun" "I" ∈ Tg := List.mem_filter.mpr ⟨List.mem_of_getElem? (i := 787) (by decide +kernel), by decide +kernel⟩
theorem kf_X11_107 : Cond.fieldLink RX11 107 "StepBudgetsModel" "latest" "[I" ∈ Tg := List.mem_filter.mpr ⟨List.mem_of_getElem? (i := 788) (by decide +kernel), by decide +kernel⟩
theorem kf_X11_110 : Cond.fieldLink RX11 110 "StepBudgetsModel" "cleanedBy" "[I" ∈ Tg := List.mem_filter.mpr ⟨List.mem_of_getElem? (i := 789) (by decide +kernel), by decide +kernel⟩
theorem kf_X11_113 : Cond.fieldLink RX11 113 "StepBudgetsModel" "cleanedOf" "[I" ∈ Tg := List.mem_filter.mpr ⟨List.mem_of_getElem? (i := 790) (by decide +kernel), by decide +kernel⟩
theorem kf_X11_116 : Cond.fieldLink RX11 116 "StepBudgetsModel" "cleanedAt" "[I" ∈ Tg := List.mem_filter.mpr ⟨List.mem_of_getElem? (i := 791) (by decide +kernel), by decide +kernel⟩
theorem kA_boolean : Cond.arrayClass .boolean ∈ Tg := List.mem_filter.mpr ⟨List.mem_of_getElem? (i := 881) (by decide +kernel), by decide +kernel⟩
theorem kA_long : Cond.arrayClass .long ∈ Tg := List.mem_filter.mpr ⟨List.mem_of_getElem? (i := 882) (by decide +kernel), by decide +kernel⟩
theorem km_L_17 : Cond.methodLink RL 17 yX11_act ∈ Tg := List.mem_filter.mpr ⟨List.mem_of_getElem? (i := 883) (by decide +kernel), by decide +kernel⟩
theorem ki_X11_act : Cond.instanceMethod yX11_act ∈ Tg := List.mem_filter.mpr ⟨List.mem_of_getElem? (i := 884) (by decide +kernel), by decide +kernel⟩
theorem kl_X11_act : Cond.selects RX11 yX11_act yX11_act ∈ Tg := List.mem_filter.mpr ⟨List.mem_of_getElem? (i := 885) (by decide +kernel), by decide +kernel⟩
theorem kc_X11_act : Cond.code yX11_act cX11_act 8 (some .int) ∈ Tg := List.mem_filter.mpr ⟨List.mem_of_getElem? (i := 886) (by decide +kernel), by decide +kernel⟩
theorem km_X11_136 : Cond.methodLink RX11 136 yX11_isMethod ∈ Tg := List.mem_filter.mpr ⟨List.mem_of_getElem? (i := 887) (by decide +kernel), by decide +kernel⟩
theorem ks_X11_isMethod : Cond.static yX11_isMethod ∈ Tg := List.mem_filter.mpr ⟨List.mem_of_getElem? (i := 888) (by decide +kernel), by decide +kernel⟩
theorem kc_X11_isMethod : Cond.code yX11_isMethod cX11_isMethod 1 (some .boolean) ∈ Tg := List.mem_filter.mpr ⟨List.mem_of_getElem? (i := 889) (by decide +kernel), by decide +kernel⟩
theorem km_X11_122 : Cond.methodLink RX11 122 yX11_in ∈ Tg := List.mem_filter.mpr ⟨List.mem_of_getElem? (i := 890) (by decide +kernel), by decide +kernel⟩
theorem ks_X11_in : Cond.static yX11_in ∈ Tg := List.mem_filter.mpr ⟨List.mem_of_getElem? (i := 891) (by decide +kernel), by decide +kernel⟩
theorem kc_X11_in : Cond.code yX11_in cX11_in 3 (some .boolean) ∈ Tg := List.mem_filter.mpr ⟨List.mem_of_getElem? (i := 892) (by decide +kernel), by decide +kernel⟩
theorem km_X11_139 : Cond.methodLink RX11 139 yX11_isRight ∈ Tg := List.mem_filter.mpr ⟨List.mem_of_getElem? (i := 893) (by decide +kernel), by decide +kernel⟩
theorem ks_X11_isRight : Cond.static yX11_isRight ∈ Tg := List.mem_filter.mpr ⟨List.mem_of_getElem? (i := 894) (by decide +kernel), by decide +kernel⟩
theorem kc_X11_isRight : Cond.code yX11_isRight cX11_isRight 5 (some .boolean) ∈ Tg := List.mem_filter.mpr ⟨List.mem_of_getElem? (i := 895) (by decide +kernel), by decide +kernel⟩
theorem km_X11_126 : Cond.methodLink RX11 126 yX11_isNumber ∈ Tg := List.mem_filter.mpr ⟨List.mem_of_getElem? (i := 896) (by decide +kernel), by decide +kernel⟩
theorem ks_X11_isNumber : Cond.static yX11_isNumber ∈ Tg := List.mem_filter.mpr ⟨List.mem_of_getElem? (i := 897) (by decide +kernel), by decide +kernel⟩
theorem kc_X11_isNumber : Cond.code yX11_isNumber cX11_isNumber 1 (some .boolean) ∈ Tg := List.mem_filter.mpr ⟨List.mem_of_getElem? (i := 898) (by decide +kernel), by decide +kernel⟩
theorem km_X11_130 : Cond.methodLink RX11 130 yX11_isRow ∈ Tg := List.mem_filter.mpr ⟨List.mem_of_getElem? (i := 899) (by decide +kernel), by decide +kernel⟩
theorem ks_X11_isRow : Cond.static yX11_isRow ∈ Tg := List.mem_filter.mpr ⟨List.mem_of_getElem? (i := 900) (by decide +kernel), by decide +kernel⟩
theorem kc_X11_isRow : Cond.code yX11_isRow cX11_isRow 1 (some .boolean) ∈ Tg := List.mem_filter.mpr ⟨List.mem_of_getElem? (i := 901) (by decide +kernel), by decide +kernel⟩
theorem km_X11_133 : Cond.methodLink RX11 133 yX11_isLane ∈ Tg := List.mem_filter.mpr ⟨List.mem_of_getElem? (i := 902) (by decide +kernel), by decide +kernel⟩
theorem ks_X11_isLane : Cond.static yX11_isLane ∈ Tg := List.mem_filter.mpr ⟨List.mem_of_getElem? (i := 903) (by decide +kernel), by decide +kernel⟩
theorem kc_X11_isLane : Cond.code yX11_isLane cX11_isLane 1 (some .boolean) ∈ Tg := List.mem_filter.mpr ⟨List.mem_of_getElem? (i := 904) (by decide +kernel), by decide +kernel⟩
theorem km_L_22 : Cond.methodLink RL 22 yX11_guard ∈ Tg := List.mem_filter.mpr ⟨List.mem_of_getElem? (i := 905) (by decide +kernel), by decide +kernel⟩
theorem ki_X11_guard : Cond.instanceMethod yX11_guard ∈ Tg := List.mem_filter.mpr ⟨List.mem_of_getElem? (i := 906) (by decide +kernel), by decide +kernel⟩
theorem kl_X11_guard : Cond.selects RX11 yX11_guard yX11_guard ∈ Tg := List.mem_filter.mpr ⟨List.mem_of_getElem? (i := 907) (by decide +kernel), by decide +kernel⟩
theorem kc_X11_guard : Cond.code yX11_guard cX11_guard 7 (some .int) ∈ Tg := List.mem_filter.mpr ⟨List.mem_of_getElem? (i := 908) (by decide +kernel), by decide +kernel⟩
theorem km_X11_143 : Cond.methodLink RX11 143 yX11_isSpan ∈ Tg := List.mem_filter.mpr ⟨List.mem_of_getElem? (i := 909) (by decide +kernel), by decide +kernel⟩
theorem ks_X11_isSpan : Cond.static yX11_isSpan ∈ Tg := List.mem_filter.mpr ⟨List.mem_of_getElem? (i := 910) (by decide +kernel), by decide +kernel⟩
theorem kc_X11_isSpan : Cond.code yX11_isSpan cX11_isSpan 3 (some .boolean) ∈ Tg := List.mem_filter.mpr ⟨List.mem_of_getElem? (i := 911) (by decide +kernel), by decide +kernel⟩
theorem km_L_27 : Cond.methodLink RL 27 yX11_clean ∈ Tg := List.mem_filter.mpr ⟨List.mem_of_getElem? (i := 912) (by decide +kernel), by decide +kernel⟩
theorem ki_X11_clean : Cond.instanceMethod yX11_clean ∈ Tg := List.mem_filter.mpr ⟨List.mem_of_getElem? (i := 913) (by decide +kernel), by decide +kernel⟩
theorem kl_X11_clean : Cond.selects RX11 yX11_clean yX11_clean ∈ Tg := List.mem_filter.mpr ⟨List.mem_of_getElem? (i := 914) (by decide +kernel), by decide +kernel⟩
theorem kc_X11_clean : Cond.code yX11_clean cX11_clean 6 (some .int) ∈ Tg := List.mem_filter.mpr ⟨List.mem_of_getElem? (i := 915) (by decide +kernel), by decide +kernel⟩
theorem km_L_32 : Cond.methodLink RL 32 yX11_clear ∈ Tg := List.mem_filter.mpr ⟨List.mem_of_getElem? (i := 916) (by decide +kernel), by decide +kernel⟩
theorem ki_X11_clear : Cond.instanceMethod yX11_clear ∈ Tg := List.mem_filter.mpr ⟨List.mem_of_getElem? (i := 917) (by decide +kernel), by decide +kernel⟩
theorem kl_X11_clear : Cond.selects RX11 yX11_clear yX11_clear ∈ Tg := List.mem_filter.mpr ⟨List.mem_of_getElem? (i := 918) (by decide +kernel), by decide +kernel⟩
theorem kc_X11_clear : Cond.code yX11_clear cX11_clear 3 (some .int) ∈ Tg := List.mem_filter.mpr ⟨List.mem_of_getElem? (i := 919) (by decide +kernel), by decide +kernel⟩
theorem km_L_36 : Cond.methodLink RL 36 yX11_reserve ∈ Tg := List.mem_filter.mpr ⟨List.mem_of_getElem? (i := 920) (by decide +kernel), by decide +kernel⟩
theorem ki_X11_reserve : Cond.instanceMethod yX11_reserve ∈ Tg := List.mem_filter.mpr ⟨List.mem_of_getElem? (i := 921) (by decide +kernel), by decide +kernel⟩
theorem kl_X11_reserve : Cond.selects RX11 yX11_reserve yX11_reserve ∈ Tg := List.mem_filter.mpr ⟨List.mem_of_getElem? (i := 922) (by decide +kernel), by decide +kernel⟩
theorem kc_X11_reserve : Cond.code yX11_reserve cX11_reserve 3 (some .int) ∈ Tg := List.mem_filter.mpr ⟨List.mem_of_getElem? (i := 923) (by decide +kernel), by decide +kernel⟩
theorem km_L_41 : Cond.methodLink RL 41 yX11_run ∈ Tg := List.mem_filter.mpr ⟨List.mem_of_getElem? (i := 924) (by decide +kernel), by decide +kernel⟩
theorem ki_X11_run : Cond.instanceMethod yX11_run ∈ Tg := List.mem_filter.mpr ⟨List.mem_of_getElem? (i := 925) (by decide +kernel), by decide +kernel⟩
theorem kl_X11_run : Cond.selects RX11 yX11_run yX11_run ∈ Tg := List.mem_filter.mpr ⟨List.mem_of_getElem? (i := 926) (by decide +kernel), by decide +kernel⟩
theorem kc_X11_run : Cond.code yX11_run cX11_run 5 (some .int) ∈ Tg := List.mem_filter.mpr ⟨List.mem_of_getElem? (i := 927) (by decide +kernel), by decide +kernel⟩
theorem km_X11_178 : Cond.methodLink RX11 178 yX11_counts ∈ Tg := List.mem_filter.mpr ⟨List.mem_of_getElem? (i := 928) (by decide +kernel), by decide +kernel⟩
theorem ki_X11_counts : Cond.instanceMethod yX11_counts ∈ Tg := List.mem_filter.mpr ⟨List.mem_of_getElem? (i := 930) (by decide +kernel), by decide +kernel⟩
theorem kc_X11_counts : Cond.code yX11_counts cX11_counts 1 (some .boolean) ∈ Tg := List.mem_filter.mpr ⟨List.mem_of_getElem? (i := 931) (by decide +kernel), by decide +kernel⟩
theorem km_X11_146 : Cond.methodLink RX11 146 yX11_take ∈ Tg := List.mem_filter.mpr ⟨List.mem_of_getElem? (i := 932) (by decide +kernel), by decide +kernel⟩
theorem ki_X11_take : Cond.instanceMethod yX11_take ∈ Tg := List.mem_filter.mpr ⟨List.mem_of_getElem? (i := 934) (by decide +kernel), by decide +kernel⟩
theorem kc_X11_take : Cond.code yX11_take cX11_take 3 (some .boolean) ∈ Tg := List.mem_filter.mpr ⟨List.mem_of_getElem? (i := 935) (by decide +kernel), by decide +kernel⟩
theorem km_X11_156 : Cond.methodLink RX11 156 yX11_over ∈ Tg := List.mem_filter.mpr ⟨List.mem_of_getElem? (i := 936) (by decide +kernel), by decide +kernel⟩
theorem ki_X11_over : Cond.instanceMethod yX11_over ∈ Tg := List.mem_filter.mpr ⟨List.mem_of_getElem? (i := 938) (by decide +kernel), by decide +kernel⟩
theorem kc_X11_over : Cond.code yX11_over cX11_over 2 none ∈ Tg := List.mem_filter.mpr ⟨List.mem_of_getElem? (i := 939) (by decide +kernel), by decide +kernel⟩
theorem km_X11_194 : Cond.methodLink RX11 194 yX11_makes ∈ Tg := List.mem_filter.mpr ⟨List.mem_of_getElem? (i := 940) (by decide +kernel), by decide +kernel⟩
theorem ki_X11_makes : Cond.instanceMethod yX11_makes ∈ Tg := List.mem_filter.mpr ⟨List.mem_of_getElem? (i := 942) (by decide +kernel), by decide +kernel⟩
theorem kc_X11_makes : Cond.code yX11_makes cX11_makes 7 (some .boolean) ∈ Tg := List.mem_filter.mpr ⟨List.mem_of_getElem? (i := 943) (by decide +kernel), by decide +kernel⟩
theorem km_X11_242 : Cond.methodLink RX11 242 yX11_cleanOn ∈ Tg := List.mem_filter.mpr ⟨List.mem_of_getElem? (i := 944) (by decide +kernel), by decide +kernel⟩
theorem ki_X11_cleanOn : Cond.instanceMethod yX11_cleanOn ∈ Tg := List.mem_filter.mpr ⟨List.mem_of_getElem? (i := 946) (by decide +kernel), by decide +kernel⟩
theorem kc_X11_cleanOn : Cond.code yX11_cleanOn cX11_cleanOn 4 none ∈ Tg := List.mem_filter.mpr ⟨List.mem_of_getElem? (i := 947) (by decide +kernel), by decide +kernel⟩
theorem km_X11_175 : Cond.methodLink RX11 175 yX11_holds ∈ Tg := List.mem_filter.mpr ⟨List.mem_of_getElem? (i := 948) (by decide +kernel), by decide +kernel⟩
theorem ks_X11_holds : Cond.static yX11_holds ∈ Tg := List.mem_filter.mpr ⟨List.mem_of_getElem? (i := 949) (by decide +kernel), by decide +kernel⟩
theorem kc_X11_holds : Cond.code yX11_holds cX11_holds 3 (some .boolean) ∈ Tg := List.mem_filter.mpr ⟨List.mem_of_getElem? (i := 950) (by decide +kernel), by decide +kernel⟩
theorem km_X11_182 : Cond.methodLink RX11 182 yX11_runsClean ∈ Tg := List.mem_filter.mpr ⟨List.mem_of_getElem? (i := 951) (by decide +kernel), by decide +kernel⟩
theorem ki_X11_runsClean : Cond.instanceMethod yX11_runsClean ∈ Tg := List.mem_filter.mpr ⟨List.mem_of_getElem? (i := 953) (by decide +kernel), by decide +kernel⟩
theorem kc_X11_runsClean : Cond.code yX11_runsClean cX11_runsClean 3 (some .boolean) ∈ Tg := List.mem_filter.mpr ⟨List.mem_of_getElem? (i := 954) (by decide +kernel), by decide +kernel⟩
theorem km_X11_245 : Cond.methodLink RX11 245 yX11_leaveOn ∈ Tg := List.mem_filter.mpr ⟨List.mem_of_getElem? (i := 955) (by decide +kernel), by decide +kernel⟩
theorem ki_X11_leaveOn : Cond.instanceMethod yX11_leaveOn ∈ Tg := List.mem_filter.mpr ⟨List.mem_of_getElem? (i := 957) (by decide +kernel), by decide +kernel⟩
theorem kc_X11_leaveOn : Cond.code yX11_leaveOn cX11_leaveOn 3 none ∈ Tg := List.mem_filter.mpr ⟨List.mem_of_getElem? (i := 958) (by decide +kernel), by decide +kernel⟩
theorem km_X11_185 : Cond.methodLink RX11 185 yX11_throwOn ∈ Tg := List.mem_filter.mpr ⟨List.mem_of_getElem? (i := 959) (by decide +kernel), by decide +kernel⟩
theorem ki_X11_throwOn : Cond.instanceMethod yX11_throwOn ∈ Tg := List.mem_filter.mpr ⟨List.mem_of_getElem? (i := 961) (by decide +kernel), by decide +kernel⟩
theorem kc_X11_throwOn : Cond.code yX11_throwOn cX11_throwOn 6 none ∈ Tg := List.mem_filter.mpr ⟨List.mem_of_getElem? (i := 962) (by decide +kernel), by decide +kernel⟩
theorem km_X11_168 : Cond.methodLink RX11 168 yX11_raise ∈ Tg := List.mem_filter.mpr ⟨List.mem_of_getElem? (i := 963) (by decide +kernel), by decide +kernel⟩
theorem ki_X11_raise : Cond.instanceMethod yX11_raise ∈ Tg := List.mem_filter.mpr ⟨List.mem_of_getElem? (i := 965) (by decide +kernel), by decide +kernel⟩
theorem kc_X11_raise : Cond.code yX11_raise cX11_raise 6 none ∈ Tg := List.mem_filter.mpr ⟨List.mem_of_getElem? (i := 966) (by decide +kernel), by decide +kernel⟩
theorem km_X11_198 : Cond.methodLink RX11 198 yX11_leave ∈ Tg := List.mem_filter.mpr ⟨List.mem_of_getElem? (i := 967) (by decide +kernel), by decide +kernel⟩
theorem ki_X11_leave : Cond.instanceMethod yX11_leave ∈ Tg := List.mem_filter.mpr ⟨List.mem_of_getElem? (i := 969) (by decide +kernel), by decide +kernel⟩
theorem kc_X11_leave : Cond.code yX11_leave cX11_leave 5 none ∈ Tg := List.mem_filter.mpr ⟨List.mem_of_getElem? (i := 970) (by decide +kernel), by decide +kernel⟩
theorem km_X11_188 : Cond.methodLink RX11 188 yX11_thrown ∈ Tg := List.mem_filter.mpr ⟨List.mem_of_getElem? (i := 971) (by decide +kernel), by decide +kernel⟩
theorem ki_X11_thrown : Cond.instanceMethod yX11_thrown ∈ Tg := List.mem_filter.mpr ⟨List.mem_of_getElem? (i := 973) (by decide +kernel), by decide +kernel⟩
theorem kc_X11_thrown : Cond.code yX11_thrown cX11_thrown 3 none ∈ Tg := List.mem_filter.mpr ⟨List.mem_of_getElem? (i := 974) (by decide +kernel), by decide +kernel⟩
theorem km_X11_191 : Cond.methodLink RX11 191 yX11_gave ∈ Tg := List.mem_filter.mpr ⟨List.mem_of_getElem? (i := 975) (by decide +kernel), by decide +kernel⟩
theorem ki_X11_gave : Cond.instanceMethod yX11_gave ∈ Tg := List.mem_filter.mpr ⟨List.mem_of_getElem? (i := 977) (by decide +kernel), by decide +kernel⟩
theorem kc_X11_gave : Cond.code yX11_gave cX11_gave 5 none ∈ Tg := List.mem_filter.mpr ⟨List.mem_of_getElem? (i := 978) (by decide +kernel), by decide +kernel⟩
theorem km_X11_249 : Cond.methodLink RX11 249 yX11_step ∈ Tg := List.mem_filter.mpr ⟨List.mem_of_getElem? (i := 979) (by decide +kernel), by decide +kernel⟩
theorem ki_X11_step : Cond.instanceMethod yX11_step ∈ Tg := List.mem_filter.mpr ⟨List.mem_of_getElem? (i := 981) (by decide +kernel), by decide +kernel⟩
theorem kc_X11_step : Cond.code yX11_step cX11_step 6 none ∈ Tg := List.mem_filter.mpr ⟨List.mem_of_getElem? (i := 982) (by decide +kernel), by decide +kernel⟩
theorem km_X11_202 : Cond.methodLink RX11 202 yX11_goes ∈ Tg := List.mem_filter.mpr ⟨List.mem_of_getElem? (i := 983) (by decide +kernel), by decide +kernel⟩
theorem ki_X11_goes : Cond.instanceMethod yX11_goes ∈ Tg := List.mem_filter.mpr ⟨List.mem_of_getElem? (i := 985) (by decide +kernel), by decide +kernel⟩
theorem kc_X11_goes : Cond.code yX11_goes cX11_goes 4 none ∈ Tg := List.mem_filter.mpr ⟨List.mem_of_getElem? (i := 986) (by decide +kernel), by decide +kernel⟩
theorem km_X11_211 : Cond.methodLink RX11 211 yX11_get ∈ Tg := List.mem_filter.mpr ⟨List.mem_of_getElem? (i := 987) (by decide +kernel), by decide +kernel⟩
theorem ki_X11_get : Cond.instanceMethod yX11_get ∈ Tg := List.mem_filter.mpr ⟨List.mem_of_getElem? (i := 989) (by decide +kernel), by decide +kernel⟩
theorem kc_X11_get : Cond.code yX11_get cX11_get 3 (some .int) ∈ Tg := List.mem_filter.mpr ⟨List.mem_of_getElem? (i := 990) (by decide +kernel), by decide +kernel⟩
theorem km_X11_205 : Cond.methodLink RX11 205 yX11_news ∈ Tg := List.mem_filter.mpr ⟨List.mem_of_getElem? (i := 991) (by decide +kernel), by decide +kernel⟩
theorem ki_X11_news : Cond.instanceMethod yX11_news ∈ Tg := List.mem_filter.mpr ⟨List.mem_of_getElem? (i := 993) (by decide +kernel), by decide +kernel⟩
theorem kc_X11_news : Cond.code yX11_news cX11_news 5 none ∈ Tg := List.mem_filter.mpr ⟨List.mem_of_getElem? (i := 994) (by decide +kernel), by decide +kernel⟩
theorem km_X11_208 : Cond.methodLink RX11 208 yX11_begins ∈ Tg := List.mem_filter.mpr ⟨List.mem_of_getElem? (i := 995) (by decide +kernel), by decide +kernel⟩
theorem ki_X11_begins : Cond.instanceMethod yX11_begins ∈ Tg := List.mem_filter.mpr ⟨List.mem_of_getElem? (i := 997) (by decide +kernel), by decide +kernel⟩
theorem kc_X11_begins : Cond.code yX11_begins cX11_begins 3 none ∈ Tg := List.mem_filter.mpr ⟨List.mem_of_getElem? (i := 998) (by decide +kernel), by decide +kernel⟩
theorem km_X11_215 : Cond.methodLink RX11 215 yX11_reckons ∈ Tg := List.mem_filter.mpr ⟨List.mem_of_getElem? (i := 999) (by decide +kernel), by decide +kernel⟩
theorem ki_X11_reckons : Cond.instanceMethod yX11_reckons ∈ Tg := List.mem_filter.mpr ⟨List.mem_of_getElem? (i := 1001) (by decide +kernel), by decide +kernel⟩
theorem kc_X11_reckons : Cond.code yX11_reckons cX11_reckons 6 (some .int) ∈ Tg := List.mem_filter.mpr ⟨List.mem_of_getElem? (i := 1002) (by decide +kernel), by decide +kernel⟩
theorem km_X11_227 : Cond.methodLink RX11 227 yX11_put ∈ Tg := List.mem_filter.mpr ⟨List.mem_of_getElem? (i := 1003) (by decide +kernel), by decide +kernel⟩
theorem ki_X11_put : Cond.instanceMethod yX11_put ∈ Tg := List.mem_filter.mpr ⟨List.mem_of_getElem? (i := 1005) (by decide +kernel), by decide +kernel⟩
theorem kc_X11_put : Cond.code yX11_put cX11_put 4 none ∈ Tg := List.mem_filter.mpr ⟨List.mem_of_getElem? (i := 1006) (by decide +kernel), by decide +kernel⟩
theorem km_X11_218 : Cond.methodLink RX11 218 yX11_rows ∈ Tg := List.mem_filter.mpr ⟨List.mem_of_getElem? (i := 1007) (by decide +kernel), by decide +kernel⟩
theorem ki_X11_rows : Cond.instanceMethod yX11_rows ∈ Tg := List.mem_filter.mpr ⟨List.mem_of_getElem? (i := 1009) (by decide +kernel), by decide +kernel⟩
theorem kc_X11_rows : Cond.code yX11_rows cX11_rows 7 (some .int) ∈ Tg := List.mem_filter.mpr ⟨List.mem_of_getElem? (i := 1010) (by decide +kernel), by decide +kernel⟩
theorem km_X11_231 : Cond.methodLink RX11 231 yX11_look ∈ Tg := List.mem_filter.mpr ⟨List.mem_of_getElem? (i := 1011) (by decide +kernel), by decide +kernel⟩
theorem ki_X11_look : Cond.instanceMethod yX11_look ∈ Tg := List.mem_filter.mpr ⟨List.mem_of_getElem? (i := 1013) (by decide +kernel), by decide +kernel⟩
theorem kc_X11_look : Cond.code yX11_look cX11_look 4 (some .int) ∈ Tg := List.mem_filter.mpr ⟨List.mem_of_getElem? (i := 1014) (by decide +kernel), by decide +kernel⟩
theorem km_X11_235 : Cond.methodLink RX11 235 yX11_cast ∈ Tg := List.mem_filter.mpr ⟨List.mem_of_getElem? (i := 1015) (by decide +kernel), by decide +kernel⟩
theorem ks_X11_cast : Cond.static yX11_cast ∈ Tg := List.mem_filter.mpr ⟨List.mem_of_getElem? (i := 1016) (by decide +kernel), by decide +kernel⟩
theorem kc_X11_cast : Cond.code yX11_cast cX11_cast 2 (some .long) ∈ Tg := List.mem_filter.mpr ⟨List.mem_of_getElem? (i := 1017) (by decide +kernel), by decide +kernel⟩
theorem km_X11_239 : Cond.methodLink RX11 239 yX11_copies ∈ Tg := List.mem_filter.mpr ⟨List.mem_of_getElem? (i := 1018) (by decide +kernel), by decide +kernel⟩
theorem ki_X11_copies : Cond.instanceMethod yX11_copies ∈ Tg := List.mem_filter.mpr ⟨List.mem_of_getElem? (i := 1020) (by decide +kernel), by decide +kernel⟩
theorem kc_X11_copies : Cond.code yX11_copies cX11_copies 5 (some .int) ∈ Tg := List.mem_filter.mpr ⟨List.mem_of_getElem? (i := 1021) (by decide +kernel), by decide +kernel⟩
theorem km_L_45 : Cond.methodLink RL 45 yX11_latest ∈ Tg := List.mem_filter.mpr ⟨List.mem_of_getElem? (i := 1022) (by decide +kernel), by decide +kernel⟩
theorem ki_X11_latest : Cond.instanceMethod yX11_latest ∈ Tg := List.mem_filter.mpr ⟨List.mem_of_getElem? (i := 1023) (by decide +kernel), by decide +kernel⟩
theorem kl_X11_latest : Cond.selects RX11 yX11_latest yX11_latest ∈ Tg := List.mem_filter.mpr ⟨List.mem_of_getElem? (i := 1024) (by decide +kernel), by decide +kernel⟩
theorem kc_X11_latest : Cond.code yX11_latest cX11_latest 2 (some .int) ∈ Tg := List.mem_filter.mpr ⟨List.mem_of_getElem? (i := 1025) (by decide +kernel), by decide +kernel⟩
theorem km_L_50 : Cond.methodLink RL 50 yX11_cleaned ∈ Tg := List.mem_filter.mpr ⟨List.mem_of_getElem? (i := 1026) (by decide +kernel), by decide +kernel⟩
theorem ki_X11_cleaned : Cond.instanceMethod yX11_cleaned ∈ Tg := List.mem_filter.mpr ⟨List.mem_of_getElem? (i := 1027) (by decide +kernel), by decide +kernel⟩
theorem kl_X11_cleaned : Cond.selects RX11 yX11_cleaned yX11_cleaned ∈ Tg := List.mem_filter.mpr ⟨List.mem_of_getElem? (i := 1028) (by decide +kernel), by decide +kernel⟩
theorem kc_X11_cleaned : Cond.code yX11_cleaned cX11_cleaned 3 (some .int) ∈ Tg := List.mem_filter.mpr ⟨List.mem_of_getElem? (i := 1029) (by decide +kernel), by decide +kernel⟩
theorem km_L_54 : Cond.methodLink RL 54 yX11_told ∈ Tg := List.mem_filter.mpr ⟨List.mem_of_getElem? (i := 1030) (by decide +kernel), by decide +kernel⟩
theorem ki_X11_told : Cond.instanceMethod yX11_told ∈ Tg := List.mem_filter.mpr ⟨List.mem_of_getElem? (i := 1031) (by decide +kernel), by decide +kernel⟩
theorem kl_X11_told : Cond.selects RX11 yX11_told yX11_told ∈ Tg := List.mem_filter.mpr ⟨List.mem_of_getElem? (i := 1032) (by decide +kernel), by decide +kernel⟩
theorem kc_X11_told : Cond.code yX11_told cX11_told 3 (some .int) ∈ Tg := List.mem_filter.mpr ⟨List.mem_of_getElem? (i := 1033) (by decide +kernel), by decide +kernel⟩
theorem in_X0 : ∀ w ∈ u_ws RX0 TX0 5, w ∈ Tg := by decide +kernel
theorem in_X1 : ∀ w ∈ u_ws RX1 TX1 3, w ∈ Tg := by decide +kernel
theorem in_X2 : ∀ w ∈ u_ws RX2 TX2 6, w ∈ Tg := by decide +kernel
theorem in_X3 : ∀ w ∈ u_ws RX3 TX3 4, w ∈ Tg := by decide +kernel
theorem in_X4 : ∀ w ∈ u_ws RX4 TX4 7, w ∈ Tg := by decide +kernel
theorem in_X5 : ∀ w ∈ u_ws RX5 TX5 7, w ∈ Tg := by decide +kernel
theorem in_X6 : ∀ w ∈ u_ws RX6 TX6 3, w ∈ Tg := by decide +kernel
theorem in_X8 : ∀ w ∈ u_ws RX8 TX8 7, w ∈ Tg := by decide +kernel
theorem in_X9 : ∀ w ∈ u_ws RX9 TX9 6, w ∈ Tg := by decide +kernel
theorem in_X10 : ∀ w ∈ u_ws RX10 TX10 2, w ∈ Tg := by decide +kernel
theorem in_X11 : ∀ w ∈ u_ws RX11 TX11 44, w ∈ Tg := by decide +kernel
theorem in_Jx4a65c : ∀ w ∈ u_ws RJx4a65c TJx4a65c 3, w ∈ Tg := by decide +kernel
