def tbG : List Cond := lw_tbl.filter goodWord
theorem tbG_in {w : Cond} (h : w ∈ lw_tbl) (g : goodWord w = true) : w ∈ tbG := List.mem_filter.mpr ⟨h, g⟩
theorem tb0 {w : Cond} (h : w ∈ k2_sels lw_privs) (g : goodWord w = true) : w ∈ tbG := tbG_in (List.mem_append_left _ h) g
theorem tb1 {w : Cond} (h : w ∈ tables_1_1) (g : goodWord w = true) : w ∈ tbG := tbG_in (List.mem_append_right _ (List.mem_append_left _ h)) g
theorem tb2 {w : Cond} (h : w ∈ tables_1_2) (g : goodWord w = true) : w ∈ tbG := tbG_in (List.mem_append_right _ (List.mem_append_right _ (List.mem_append_left _ h))) g
theorem tb3 {w : Cond} (h : w ∈ tables_1_3) (g : goodWord w = true) : w ∈ tbG := tbG_in (List.mem_append_right _ (List.mem_append_right _ (List.mem_append_right _ h))) g
theorem w_se_X0_lets : Cond.selects RX0 yX0_lets yX0_lets ∈ tbG := tb0 (List.mem_of_getElem? (i := 0) rfl) rfl
theorem w_se_X0_isInTime : Cond.selects RX0 yX0_isInTime yX0_isInTime ∈ tbG := tb0 (List.mem_of_getElem? (i := 1) rfl) rfl
theorem w_se_X0_isHealed : Cond.selects RX0 yX0_isHealed yX0_isHealed ∈ tbG := tb0 (List.mem_of_getElem? (i := 2) rfl) rfl
theorem w_se_X3_soundOn : Cond.selects RX3 yX3_soundOn yX3_soundOn ∈ tbG := tb0 (List.mem_of_getElem? (i := 3) rfl) rfl
theorem w_se_X3_exempt : Cond.selects RX3 yX3_exempt yX3_exempt ∈ tbG := tb0 (List.mem_of_getElem? (i := 4) rfl) rfl
theorem w_se_X0_isHeldUp : Cond.selects RX0 yX0_isHeldUp yX0_isHeldUp ∈ tbG := tb0 (List.mem_of_getElem? (i := 5) rfl) rfl
theorem w_se_X0_heldUpOf : Cond.selects RX0 yX0_heldUpOf yX0_heldUpOf ∈ tbG := tb0 (List.mem_of_getElem? (i := 6) rfl) rfl
theorem w_se_X0_everyOne : Cond.selects RX0 yX0_everyOne yX0_everyOne ∈ tbG := tb0 (List.mem_of_getElem? (i := 7) rfl) rfl
theorem w_se_X3_fallen : Cond.selects RX3 yX3_fallen yX3_fallen ∈ tbG := tb0 (List.mem_of_getElem? (i := 8) rfl) rfl
theorem w_se_X3_stepCount : Cond.selects RX3 yX3_stepCount yX3_stepCount ∈ tbG := tb0 (List.mem_of_getElem? (i := 9) rfl) rfl
theorem w_se_X3_stepAt : Cond.selects RX3 yX3_stepAt yX3_stepAt ∈ tbG := tb0 (List.mem_of_getElem? (i := 10) rfl) rfl
theorem w_se_X3_wiseWho : Cond.selects RX3 yX3_wiseWho yX3_wiseWho ∈ tbG := tb0 (List.mem_of_getElem? (i := 11) rfl) rfl
theorem w_se_X3_firstWiseAct : Cond.selects RX3 yX3_firstWiseAct yX3_firstWiseAct ∈ tbG := tb0 (List.mem_of_getElem? (i := 12) rfl) rfl
theorem w_se_X3_fewestHealed : Cond.selects RX3 yX3_fewestHealed yX3_fewestHealed ∈ tbG := tb0 (List.mem_of_getElem? (i := 13) rfl) rfl
theorem w_se_X3_indispensable : Cond.selects RX3 yX3_indispensable yX3_indispensable ∈ tbG := tb0 (List.mem_of_getElem? (i := 14) rfl) rfl
theorem w_se_X3_allStand : Cond.selects RX3 yX3_allStand yX3_allStand ∈ tbG := tb0 (List.mem_of_getElem? (i := 15) rfl) rfl
theorem w_se_X3_withstands : Cond.selects RX3 yX3_withstands yX3_withstands ∈ tbG := tb0 (List.mem_of_getElem? (i := 16) rfl) rfl
theorem w_se_X4_isAct : Cond.selects RX4 yX4_isAct yX4_isAct ∈ tbG := tb0 (List.mem_of_getElem? (i := 17) rfl) rfl
theorem w_se_X4_wouldCount : Cond.selects RX4 yX4_wouldCount yX4_wouldCount ∈ tbG := tb0 (List.mem_of_getElem? (i := 18) rfl) rfl
theorem w_se_X4_isHealed : Cond.selects RX4 yX4_isHealed yX4_isHealed ∈ tbG := tb0 (List.mem_of_getElem? (i := 19) rfl) rfl
theorem w_se_X4_soundOf : Cond.selects RX4 yX4_soundOf yX4_soundOf ∈ tbG := tb0 (List.mem_of_getElem? (i := 20) rfl) rfl
theorem w_se_X4_isSound : Cond.selects RX4 yX4_isSound yX4_isSound ∈ tbG := tb0 (List.mem_of_getElem? (i := 21) rfl) rfl
theorem w_se_X4_isAsked : Cond.selects RX4 yX4_isAsked yX4_isAsked ∈ tbG := tb0 (List.mem_of_getElem? (i := 22) rfl) rfl
theorem w_se_X4_mostOf : Cond.selects RX4 yX4_mostOf yX4_mostOf ∈ tbG := tb0 (List.mem_of_getElem? (i := 23) rfl) rfl
theorem w_se_X4_loose : Cond.selects RX4 yX4_loose yX4_loose ∈ tbG := tb0 (List.mem_of_getElem? (i := 24) rfl) rfl
theorem w_se_X4_isHeld : Cond.selects RX4 yX4_isHeld yX4_isHeld ∈ tbG := tb0 (List.mem_of_getElem? (i := 25) rfl) rfl
theorem w_se_X4_leastOf : Cond.selects RX4 yX4_leastOf yX4_leastOf ∈ tbG := tb0 (List.mem_of_getElem? (i := 26) rfl) rfl
theorem w_se_X4_standing : Cond.selects RX4 yX4_standing yX4_standing ∈ tbG := tb0 (List.mem_of_getElem? (i := 27) rfl) rfl
theorem w_se_X4_namedBy : Cond.selects RX4 yX4_namedBy yX4_namedBy ∈ tbG := tb0 (List.mem_of_getElem? (i := 28) rfl) rfl
theorem w_se_X4_fallOf : Cond.selects RX4 yX4_fallOf yX4_fallOf ∈ tbG := tb0 (List.mem_of_getElem? (i := 29) rfl) rfl
theorem w_se_X4_backOf : Cond.selects RX4 yX4_backOf yX4_backOf ∈ tbG := tb0 (List.mem_of_getElem? (i := 30) rfl) rfl
theorem w_se_X4_wiseOf : Cond.selects RX4 yX4_wiseOf yX4_wiseOf ∈ tbG := tb0 (List.mem_of_getElem? (i := 31) rfl) rfl
theorem w_se_X4_isSet : Cond.selects RX4 yX4_isSet yX4_isSet ∈ tbG := tb0 (List.mem_of_getElem? (i := 32) rfl) rfl
theorem w_se_X4_isSafeOn : Cond.selects RX4 yX4_isSafeOn yX4_isSafeOn ∈ tbG := tb0 (List.mem_of_getElem? (i := 33) rfl) rfl
theorem w_ini_L : Cond.initialized RL ∈ tbG := tb1 (List.mem_of_getElem? (i := 0) rfl) rfl
theorem w_ini_X3 : Cond.initialized RX3 ∈ tbG := tb1 (List.mem_of_getElem? (i := 1) rfl) rfl
theorem w_ini_X0 : Cond.initialized RX0 ∈ tbG := tb1 (List.mem_of_getElem? (i := 2) rfl) rfl
theorem w_ini_J7 : Cond.initialized RJ7 ∈ tbG := tb1 (List.mem_of_getElem? (i := 3) rfl) rfl
theorem w_ini_X1 : Cond.initialized RX1 ∈ tbG := tb1 (List.mem_of_getElem? (i := 4) rfl) rfl
theorem w_ini_X2 : Cond.initialized RX2 ∈ tbG := tb1 (List.mem_of_getElem? (i := 5) rfl) rfl
theorem w_ini_X4 : Cond.initialized RX4 ∈ tbG := tb1 (List.mem_of_getElem? (i := 6) rfl) rfl
theorem w_ini_J9 : Cond.initialized RJ9 ∈ tbG := tb1 (List.mem_of_getElem? (i := 7) rfl) rfl
theorem w_ini_J6 : Cond.initialized RJ6 ∈ tbG := tb1 (List.mem_of_getElem? (i := 8) rfl) rfl
theorem w_cl_L_7 : Cond.classLink RL 7 RX3 ∈ tbG := tb1 (List.mem_of_getElem? (i := 9) rfl) rfl
theorem w_ins_X3 : Cond.instantiable RX3 5 ∈ tbG := tb1 (List.mem_of_getElem? (i := 10) rfl) rfl
theorem w_ml_L_9 : Cond.methodLink RL 9 yX3_init ∈ tbG := tb1 (List.mem_of_getElem? (i := 11) rfl) rfl
theorem w_im_X3_init : Cond.instanceMethod yX3_init ∈ tbG := tb1 (List.mem_of_getElem? (i := 12) rfl) rfl
theorem w_co_X3_init : Cond.code yX3_init prog_1_method_1_code 1 none ∈ tbG := tb1 (List.mem_of_getElem? (i := 13) rfl) rfl
theorem w_ml_X3_1 : Cond.methodLink RX3 1 (⟨"java/lang/Object", "<init>", "()V"⟩ : MethodName) ∈ tbG := tb1 (List.mem_of_getElem? (i := 14) rfl) rfl
theorem w_im_Object__init_ : Cond.instanceMethod (⟨"java/lang/Object", "<init>", "()V"⟩ : MethodName) ∈ tbG := tb1 (List.mem_of_getElem? (i := 15) rfl) rfl
theorem w_co_Object__init_ : Cond.code (⟨"java/lang/Object", "<init>", "()V"⟩ : MethodName) object_method_1_code 1 none ∈ tbG := tb1 (List.mem_of_getElem? (i := 16) rfl) rfl
theorem w_cl_X3_7 : Cond.classLink RX3 7 RX0 ∈ tbG := tb1 (List.mem_of_getElem? (i := 17) rfl) rfl
theorem w_ins_X0 : Cond.instantiable RX0 8 ∈ tbG := tb1 (List.mem_of_getElem? (i := 18) rfl) rfl
theorem w_ml_X3_9 : Cond.methodLink RX3 9 yX0_init ∈ tbG := tb1 (List.mem_of_getElem? (i := 19) rfl) rfl
theorem w_im_X0_init : Cond.instanceMethod yX0_init ∈ tbG := tb1 (List.mem_of_getElem? (i := 20) rfl) rfl
theorem w_co_X0_init : Cond.code yX0_init prog_2_method_1_code 1 none ∈ tbG := tb1 (List.mem_of_getElem? (i := 21) rfl) rfl
theorem w_ml_X0_3 : Cond.methodLink RX0 3 (⟨"java/lang/Object", "<init>", "()V"⟩ : MethodName) ∈ tbG := tb1 (List.mem_of_getElem? (i := 22) rfl) rfl
theorem w_cl_X0_24 : Cond.classLink RX0 24 "[[I" ∈ tbG := tb1 (List.mem_of_getElem? (i := 23) rfl) rfl
theorem w_ml_X0_35 : Cond.methodLink RX0 35 yJ7_fill_53178 ∈ tbG := tb1 (List.mem_of_getElem? (i := 25) rfl) rfl
theorem w_sta_J7_fill_53178 : Cond.static yJ7_fill_53178 ∈ tbG := tb1 (List.mem_of_getElem? (i := 26) rfl) rfl
theorem w_co_J7_fill_53178 : Cond.code yJ7_fill_53178 prog_9_method_103_code 4 none ∈ tbG := tb1 (List.mem_of_getElem? (i := 27) rfl) rfl
theorem w_fl_X0_9 : Cond.fieldLink RX0 9 "FallWith$Acts" "day" "[I" ∈ tbG := tb1 (List.mem_of_getElem? (i := 28) rfl) rfl
theorem w_fl_X3_168 : Cond.fieldLink RX3 168 "FallWith$Acts" "day" "[I" ∈ tbG := tb1 (List.mem_of_getElem? (i := 29) rfl) rfl
theorem w_fl_X0_15 : Cond.fieldLink RX0 15 "FallWith$Acts" "giver" "[I" ∈ tbG := tb1 (List.mem_of_getElem? (i := 30) rfl) rfl
theorem w_fl_X0_18 : Cond.fieldLink RX0 18 "FallWith$Acts" "taker" "[I" ∈ tbG := tb1 (List.mem_of_getElem? (i := 31) rfl) rfl
theorem w_fl_X0_21 : Cond.fieldLink RX0 21 "FallWith$Acts" "worth" "[I" ∈ tbG := tb1 (List.mem_of_getElem? (i := 32) rfl) rfl
theorem w_fl_X0_26 : Cond.fieldLink RX0 26 "FallWith$Acts" "settings" "[[I" ∈ tbG := tb1 (List.mem_of_getElem? (i := 33) rfl) rfl
theorem w_fl_X3_65 : Cond.fieldLink RX3 65 "FallWith$Acts" "settings" "[[I" ∈ tbG := tb1 (List.mem_of_getElem? (i := 34) rfl) rfl
theorem w_fl_X0_29 : Cond.fieldLink RX0 29 "FallWith$Acts" "allCount" "[I" ∈ tbG := tb1 (List.mem_of_getElem? (i := 35) rfl) rfl
theorem w_fl_X3_84 : Cond.fieldLink RX3 84 "FallWith$Acts" "allCount" "[I" ∈ tbG := tb1 (List.mem_of_getElem? (i := 36) rfl) rfl
theorem w_fl_X0_32 : Cond.fieldLink RX0 32 "FallWith$Acts" "alls" "[[I" ∈ tbG := tb1 (List.mem_of_getElem? (i := 37) rfl) rfl
theorem w_fl_X0_41 : Cond.fieldLink RX0 41 "FallWith$Acts" "count" "I" ∈ tbG := tb1 (List.mem_of_getElem? (i := 38) rfl) rfl
theorem w_fl_X3_48 : Cond.fieldLink RX3 48 "FallWith$Acts" "count" "I" ∈ tbG := tb1 (List.mem_of_getElem? (i := 39) rfl) rfl
theorem w_arc : Cond.arrayClass .int ∈ tbG := tb1 (List.mem_of_getElem? (i := 57) rfl) rfl
theorem w_cl_X3_16 : Cond.classLink RX3 16 RX1 ∈ tbG := tb1 (List.mem_of_getElem? (i := 58) rfl) rfl
theorem w_ins_X1 : Cond.instantiable RX1 4 ∈ tbG := tb1 (List.mem_of_getElem? (i := 59) rfl) rfl
theorem w_im_X1_init : Cond.instanceMethod yX1_init ∈ tbG := tb1 (List.mem_of_getElem? (i := 61) rfl) rfl
theorem w_co_X1_init : Cond.code yX1_init prog_3_method_1_code 1 none ∈ tbG := tb1 (List.mem_of_getElem? (i := 62) rfl) rfl
theorem w_ml_X1_3 : Cond.methodLink RX1 3 (⟨"java/lang/Object", "<init>", "()V"⟩ : MethodName) ∈ tbG := tb1 (List.mem_of_getElem? (i := 63) rfl) rfl
theorem w_fl_X1_9 : Cond.fieldLink RX1 9 "FallWith$Askings" "act" "[I" ∈ tbG := tb1 (List.mem_of_getElem? (i := 64) rfl) rfl
theorem w_fl_X1_15 : Cond.fieldLink RX1 15 "FallWith$Askings" "who" "[I" ∈ tbG := tb1 (List.mem_of_getElem? (i := 65) rfl) rfl
theorem w_fl_X1_18 : Cond.fieldLink RX1 18 "FallWith$Askings" "day" "[I" ∈ tbG := tb1 (List.mem_of_getElem? (i := 66) rfl) rfl
theorem w_fl_X1_21 : Cond.fieldLink RX1 21 "FallWith$Askings" "count" "I" ∈ tbG := tb1 (List.mem_of_getElem? (i := 67) rfl) rfl
theorem w_fl_X3_87 : Cond.fieldLink RX3 87 "FallWith$Askings" "count" "I" ∈ tbG := tb1 (List.mem_of_getElem? (i := 68) rfl) rfl
theorem w_cl_X3_23 : Cond.classLink RX3 23 RX2 ∈ tbG := tb1 (List.mem_of_getElem? (i := 78) rfl) rfl
theorem w_ins_X2 : Cond.instantiable RX2 2 ∈ tbG := tb1 (List.mem_of_getElem? (i := 79) rfl) rfl
theorem w_im_X2_init : Cond.instanceMethod yX2_init ∈ tbG := tb1 (List.mem_of_getElem? (i := 81) rfl) rfl
theorem w_co_X2_init : Cond.code yX2_init prog_4_method_1_code 1 none ∈ tbG := tb1 (List.mem_of_getElem? (i := 82) rfl) rfl
theorem w_ml_X2_3 : Cond.methodLink RX2 3 (⟨"java/lang/Object", "<init>", "()V"⟩ : MethodName) ∈ tbG := tb1 (List.mem_of_getElem? (i := 83) rfl) rfl
theorem w_fl_X2_9 : Cond.fieldLink RX2 9 "FallWith$Pad" "signs" "[I" ∈ tbG := tb1 (List.mem_of_getElem? (i := 84) rfl) rfl
theorem w_fl_X0_52 : Cond.fieldLink RX0 52 "FallWith$Pad" "signs" "[I" ∈ tbG := tb1 (List.mem_of_getElem? (i := 85) rfl) rfl
theorem w_fl_X2_15 : Cond.fieldLink RX2 15 "FallWith$Pad" "count" "I" ∈ tbG := tb1 (List.mem_of_getElem? (i := 86) rfl) rfl
theorem w_fl_X3_69 : Cond.fieldLink RX3 69 "FallWith$Pad" "count" "I" ∈ tbG := tb1 (List.mem_of_getElem? (i := 87) rfl) rfl
theorem w_fl_X0_49 : Cond.fieldLink RX0 49 "FallWith$Pad" "count" "I" ∈ tbG := tb1 (List.mem_of_getElem? (i := 88) rfl) rfl
theorem w_fl_X3_10 : Cond.fieldLink RX3 10 "FallWith" "acts" "LFallWith$Acts;" ∈ tbG := tb1 (List.mem_of_getElem? (i := 94) rfl) rfl
theorem w_fl_X3_19 : Cond.fieldLink RX3 19 "FallWith" "askings" "LFallWith$Askings;" ∈ tbG := tb1 (List.mem_of_getElem? (i := 95) rfl) rfl
theorem w_fl_X3_26 : Cond.fieldLink RX3 26 "FallWith" "pad" "LFallWith$Pad;" ∈ tbG := tb1 (List.mem_of_getElem? (i := 96) rfl) rfl
theorem w_fl_X3_30 : Cond.fieldLink RX3 30 "FallWith" "lawNow" "I" ∈ tbG := tb1 (List.mem_of_getElem? (i := 97) rfl) rfl
theorem w_fl_X3_34 : Cond.fieldLink RX3 34 "FallWith" "rateNow" "I" ∈ tbG := tb1 (List.mem_of_getElem? (i := 98) rfl) rfl
theorem w_ml_L_13 : Cond.methodLink RL 13 yX3_act ∈ tbG := tb1 (List.mem_of_getElem? (i := 110) rfl) rfl
theorem w_im_X3_act : Cond.instanceMethod yX3_act ∈ tbG := tb1 (List.mem_of_getElem? (i := 111) rfl) rfl
theorem w_se_X3_act : Cond.selects RX3 yX3_act yX3_act ∈ tbG := tb1 (List.mem_of_getElem? (i := 112) rfl) rfl
theorem w_co_X3_act : Cond.code yX3_act prog_1_method_2_code 5 (some .int) ∈ tbG := tb1 (List.mem_of_getElem? (i := 113) rfl) rfl
theorem w_ml_X3_37 : Cond.methodLink RX3 37 yX3_isWho ∈ tbG := tb1 (List.mem_of_getElem? (i := 114) rfl) rfl
theorem w_sta_X3_isWho : Cond.static yX3_isWho ∈ tbG := tb1 (List.mem_of_getElem? (i := 115) rfl) rfl
theorem w_co_X3_isWho : Cond.code yX3_isWho prog_1_method_28_code 1 (some .boolean) ∈ tbG := tb1 (List.mem_of_getElem? (i := 116) rfl) rfl
theorem w_ml_X3_44 : Cond.methodLink RX3 44 yX3_within ∈ tbG := tb1 (List.mem_of_getElem? (i := 117) rfl) rfl
theorem w_sta_X3_within : Cond.static yX3_within ∈ tbG := tb1 (List.mem_of_getElem? (i := 118) rfl) rfl
theorem w_co_X3_within : Cond.code yX3_within prog_1_method_26_code 3 (some .boolean) ∈ tbG := tb1 (List.mem_of_getElem? (i := 119) rfl) rfl
theorem w_ml_X3_41 : Cond.methodLink RX3 41 yX3_isDay ∈ tbG := tb1 (List.mem_of_getElem? (i := 120) rfl) rfl
theorem w_sta_X3_isDay : Cond.static yX3_isDay ∈ tbG := tb1 (List.mem_of_getElem? (i := 121) rfl) rfl
theorem w_co_X3_isDay : Cond.code yX3_isDay prog_1_method_27_code 1 (some .boolean) ∈ tbG := tb1 (List.mem_of_getElem? (i := 122) rfl) rfl
theorem w_ml_X3_51 : Cond.methodLink RX3 51 yX0_add ∈ tbG := tb1 (List.mem_of_getElem? (i := 123) rfl) rfl
theorem w_im_X0_add : Cond.instanceMethod yX0_add ∈ tbG := tb1 (List.mem_of_getElem? (i := 124) rfl) rfl
theorem w_se_X0_add : Cond.selects RX0 yX0_add yX0_add ∈ tbG := tb1 (List.mem_of_getElem? (i := 125) rfl) rfl
theorem w_co_X0_add : Cond.code yX0_add prog_2_method_2_code 5 (some .int) ∈ tbG := tb1 (List.mem_of_getElem? (i := 126) rfl) rfl
theorem w_ml_L_18 : Cond.methodLink RL 18 yX3_set ∈ tbG := tb1 (List.mem_of_getElem? (i := 127) rfl) rfl
theorem w_im_X3_set : Cond.instanceMethod yX3_set ∈ tbG := tb1 (List.mem_of_getElem? (i := 128) rfl) rfl
theorem w_se_X3_set : Cond.selects RX3 yX3_set yX3_set ∈ tbG := tb1 (List.mem_of_getElem? (i := 129) rfl) rfl
theorem w_co_X3_set : Cond.code yX3_set prog_1_method_3_code 5 (some .int) ∈ tbG := tb1 (List.mem_of_getElem? (i := 130) rfl) rfl
theorem w_ml_X3_55 : Cond.methodLink RX3 55 yX0_has ∈ tbG := tb1 (List.mem_of_getElem? (i := 131) rfl) rfl
theorem w_im_X0_has : Cond.instanceMethod yX0_has ∈ tbG := tb1 (List.mem_of_getElem? (i := 132) rfl) rfl
theorem w_se_X0_has : Cond.selects RX0 yX0_has yX0_has ∈ tbG := tb1 (List.mem_of_getElem? (i := 133) rfl) rfl
theorem w_co_X0_has : Cond.code yX0_has prog_2_method_3_code 2 (some .boolean) ∈ tbG := tb1 (List.mem_of_getElem? (i := 134) rfl) rfl
theorem w_fl_X3_58 : Cond.fieldLink RX3 58 "FallWith" "LEAST_SETTING" "[I" ∈ tbG := tb1 (List.mem_of_getElem? (i := 135) rfl) rfl
theorem w_fl_X3_62 : Cond.fieldLink RX3 62 "FallWith" "GREATEST_SETTING" "[I" ∈ tbG := tb1 (List.mem_of_getElem? (i := 137) rfl) rfl
theorem w_ml_L_23 : Cond.methodLink RL 23 yX3_law ∈ tbG := tb1 (List.mem_of_getElem? (i := 139) rfl) rfl
theorem w_im_X3_law : Cond.instanceMethod yX3_law ∈ tbG := tb1 (List.mem_of_getElem? (i := 140) rfl) rfl
theorem w_se_X3_law : Cond.selects RX3 yX3_law yX3_law ∈ tbG := tb1 (List.mem_of_getElem? (i := 141) rfl) rfl
theorem w_co_X3_law : Cond.code yX3_law prog_1_method_4_code 4 (some .int) ∈ tbG := tb1 (List.mem_of_getElem? (i := 142) rfl) rfl
theorem w_ml_L_28 : Cond.methodLink RL 28 yX3_say ∈ tbG := tb1 (List.mem_of_getElem? (i := 143) rfl) rfl
theorem w_im_X3_say : Cond.instanceMethod yX3_say ∈ tbG := tb1 (List.mem_of_getElem? (i := 144) rfl) rfl
theorem w_se_X3_say : Cond.selects RX3 yX3_say yX3_say ∈ tbG := tb1 (List.mem_of_getElem? (i := 145) rfl) rfl
theorem w_co_X3_say : Cond.code yX3_say prog_1_method_5_code 2 (some .int) ∈ tbG := tb1 (List.mem_of_getElem? (i := 146) rfl) rfl
theorem w_ml_X3_70 : Cond.methodLink RX3 70 yX2_add ∈ tbG := tb1 (List.mem_of_getElem? (i := 147) rfl) rfl
theorem w_im_X2_add : Cond.instanceMethod yX2_add ∈ tbG := tb1 (List.mem_of_getElem? (i := 148) rfl) rfl
theorem w_se_X2_add : Cond.selects RX2 yX2_add yX2_add ∈ tbG := tb1 (List.mem_of_getElem? (i := 149) rfl) rfl
theorem w_co_X2_add : Cond.code yX2_add prog_4_method_2_code 2 (some .int) ∈ tbG := tb1 (List.mem_of_getElem? (i := 150) rfl) rfl
theorem w_ml_L_33 : Cond.methodLink RL 33 yX3_wipe ∈ tbG := tb1 (List.mem_of_getElem? (i := 151) rfl) rfl
theorem w_im_X3_wipe : Cond.instanceMethod yX3_wipe ∈ tbG := tb1 (List.mem_of_getElem? (i := 152) rfl) rfl
theorem w_se_X3_wipe : Cond.selects RX3 yX3_wipe yX3_wipe ∈ tbG := tb1 (List.mem_of_getElem? (i := 153) rfl) rfl
theorem w_co_X3_wipe : Cond.code yX3_wipe prog_1_method_6_code 1 (some .int) ∈ tbG := tb1 (List.mem_of_getElem? (i := 154) rfl) rfl
theorem w_ml_X3_73 : Cond.methodLink RX3 73 yX2_clear ∈ tbG := tb1 (List.mem_of_getElem? (i := 155) rfl) rfl
theorem w_im_X2_clear : Cond.instanceMethod yX2_clear ∈ tbG := tb1 (List.mem_of_getElem? (i := 156) rfl) rfl
theorem w_se_X2_clear : Cond.selects RX2 yX2_clear yX2_clear ∈ tbG := tb1 (List.mem_of_getElem? (i := 157) rfl) rfl
theorem w_co_X2_clear : Cond.code yX2_clear prog_4_method_3_code 2 (some .int) ∈ tbG := tb1 (List.mem_of_getElem? (i := 158) rfl) rfl
theorem w_ml_L_38 : Cond.methodLink RL 38 yX3_fault ∈ tbG := tb1 (List.mem_of_getElem? (i := 159) rfl) rfl
theorem w_im_X3_fault : Cond.instanceMethod yX3_fault ∈ tbG := tb1 (List.mem_of_getElem? (i := 160) rfl) rfl
theorem w_se_X3_fault : Cond.selects RX3 yX3_fault yX3_fault ∈ tbG := tb1 (List.mem_of_getElem? (i := 161) rfl) rfl
theorem w_co_X3_fault : Cond.code yX3_fault prog_1_method_7_code 1 (some .int) ∈ tbG := tb1 (List.mem_of_getElem? (i := 162) rfl) rfl
theorem w_ml_X3_77 : Cond.methodLink RX3 77 yX2_faultPlace ∈ tbG := tb1 (List.mem_of_getElem? (i := 163) rfl) rfl
theorem w_im_X2_faultPlace : Cond.instanceMethod yX2_faultPlace ∈ tbG := tb1 (List.mem_of_getElem? (i := 164) rfl) rfl
theorem w_se_X2_faultPlace : Cond.selects RX2 yX2_faultPlace yX2_faultPlace ∈ tbG := tb1 (List.mem_of_getElem? (i := 165) rfl) rfl
theorem w_co_X2_faultPlace : Cond.code yX2_faultPlace prog_4_method_4_code 2 (some .int) ∈ tbG := tb1 (List.mem_of_getElem? (i := 166) rfl) rfl
theorem w_ml_X2_19 : Cond.methodLink RX2 19 yX2_canStand ∈ tbG := tb1 (List.mem_of_getElem? (i := 167) rfl) rfl
theorem w_sta_X2_canStand : Cond.static yX2_canStand ∈ tbG := tb1 (List.mem_of_getElem? (i := 168) rfl) rfl
theorem w_co_X2_canStand : Cond.code yX2_canStand prog_4_method_6_code 2 (some .boolean) ∈ tbG := tb1 (List.mem_of_getElem? (i := 169) rfl) rfl
theorem w_ml_X2_23 : Cond.methodLink RX2 23 yX2_isForLetter ∈ tbG := tb1 (List.mem_of_getElem? (i := 170) rfl) rfl
theorem w_sta_X2_isForLetter : Cond.static yX2_isForLetter ∈ tbG := tb1 (List.mem_of_getElem? (i := 171) rfl) rfl
theorem w_co_X2_isForLetter : Cond.code yX2_isForLetter prog_4_method_5_code 1 (some .boolean) ∈ tbG := tb1 (List.mem_of_getElem? (i := 172) rfl) rfl
theorem w_ml_L_42 : Cond.methodLink RL 42 yX3_leans ∈ tbG := tb1 (List.mem_of_getElem? (i := 174) rfl) rfl
theorem w_im_X3_leans : Cond.instanceMethod yX3_leans ∈ tbG := tb1 (List.mem_of_getElem? (i := 175) rfl) rfl
theorem w_se_X3_leans : Cond.selects RX3 yX3_leans yX3_leans ∈ tbG := tb1 (List.mem_of_getElem? (i := 176) rfl) rfl
theorem w_co_X3_leans : Cond.code yX3_leans prog_1_method_8_code 2 (some .int) ∈ tbG := tb1 (List.mem_of_getElem? (i := 177) rfl) rfl
theorem w_ml_X3_80 : Cond.methodLink RX3 80 yX0_takeText ∈ tbG := tb1 (List.mem_of_getElem? (i := 178) rfl) rfl
theorem w_im_X0_takeText : Cond.instanceMethod yX0_takeText ∈ tbG := tb1 (List.mem_of_getElem? (i := 179) rfl) rfl
theorem w_se_X0_takeText : Cond.selects RX0 yX0_takeText yX0_takeText ∈ tbG := tb1 (List.mem_of_getElem? (i := 180) rfl) rfl
theorem w_co_X0_takeText : Cond.code yX0_takeText prog_2_method_6_code 7 none ∈ tbG := tb1 (List.mem_of_getElem? (i := 181) rfl) rfl
theorem w_ml_X0_55 : Cond.methodLink RX0 55 yJ9_min_7cf53 ∈ tbG := tb1 (List.mem_of_getElem? (i := 182) rfl) rfl
theorem w_sta_J9_min_7cf53 : Cond.static yJ9_min_7cf53 ∈ tbG := tb1 (List.mem_of_getElem? (i := 183) rfl) rfl
theorem w_co_J9_min_7cf53 : Cond.code yJ9_min_7cf53 prog_8_method_69_code 2 (some .int) ∈ tbG := tb1 (List.mem_of_getElem? (i := 184) rfl) rfl
theorem w_ml_L_46 : Cond.methodLink RL 46 yX3_free ∈ tbG := tb1 (List.mem_of_getElem? (i := 185) rfl) rfl
theorem w_im_X3_free : Cond.instanceMethod yX3_free ∈ tbG := tb1 (List.mem_of_getElem? (i := 186) rfl) rfl
theorem w_se_X3_free : Cond.selects RX3 yX3_free yX3_free ∈ tbG := tb1 (List.mem_of_getElem? (i := 187) rfl) rfl
theorem w_co_X3_free : Cond.code yX3_free prog_1_method_9_code 3 (some .int) ∈ tbG := tb1 (List.mem_of_getElem? (i := 188) rfl) rfl
theorem w_ml_L_50 : Cond.methodLink RL 50 yX3_ask ∈ tbG := tb1 (List.mem_of_getElem? (i := 189) rfl) rfl
theorem w_im_X3_ask : Cond.instanceMethod yX3_ask ∈ tbG := tb1 (List.mem_of_getElem? (i := 190) rfl) rfl
theorem w_se_X3_ask : Cond.selects RX3 yX3_ask yX3_ask ∈ tbG := tb1 (List.mem_of_getElem? (i := 191) rfl) rfl
theorem w_co_X3_ask : Cond.code yX3_ask prog_1_method_10_code 4 (some .int) ∈ tbG := tb1 (List.mem_of_getElem? (i := 192) rfl) rfl
theorem w_ml_X3_88 : Cond.methodLink RX3 88 yX1_add ∈ tbG := tb1 (List.mem_of_getElem? (i := 193) rfl) rfl
theorem w_im_X1_add : Cond.instanceMethod yX1_add ∈ tbG := tb1 (List.mem_of_getElem? (i := 194) rfl) rfl
theorem w_se_X1_add : Cond.selects RX1 yX1_add yX1_add ∈ tbG := tb1 (List.mem_of_getElem? (i := 195) rfl) rfl
theorem w_co_X1_add : Cond.code yX1_add prog_3_method_2_code 4 (some .int) ∈ tbG := tb1 (List.mem_of_getElem? (i := 196) rfl) rfl
theorem w_ml_L_54 : Cond.methodLink RL 54 yX3_counts ∈ tbG := tb1 (List.mem_of_getElem? (i := 197) rfl) rfl
theorem w_im_X3_counts : Cond.instanceMethod yX3_counts ∈ tbG := tb1 (List.mem_of_getElem? (i := 198) rfl) rfl
theorem w_se_X3_counts : Cond.selects RX3 yX3_counts yX3_counts ∈ tbG := tb1 (List.mem_of_getElem? (i := 199) rfl) rfl
theorem w_co_X3_counts : Cond.code yX3_counts prog_1_method_11_code 2 (some .int) ∈ tbG := tb1 (List.mem_of_getElem? (i := 200) rfl) rfl
theorem w_ml_X3_91 : Cond.methodLink RX3 91 yX1_isCounted ∈ tbG := tb1 (List.mem_of_getElem? (i := 201) rfl) rfl
theorem w_im_X1_isCounted : Cond.instanceMethod yX1_isCounted ∈ tbG := tb1 (List.mem_of_getElem? (i := 202) rfl) rfl
theorem w_se_X1_isCounted : Cond.selects RX1 yX1_isCounted yX1_isCounted ∈ tbG := tb1 (List.mem_of_getElem? (i := 203) rfl) rfl
theorem w_co_X1_isCounted : Cond.code yX1_isCounted prog_3_method_3_code 3 (some .boolean) ∈ tbG := tb1 (List.mem_of_getElem? (i := 204) rfl) rfl
theorem w_ml_X1_25 : Cond.methodLink RX1 25 yX0_wouldCount ∈ tbG := tb1 (List.mem_of_getElem? (i := 205) rfl) rfl
theorem w_im_X0_wouldCount : Cond.instanceMethod yX0_wouldCount ∈ tbG := tb1 (List.mem_of_getElem? (i := 206) rfl) rfl
theorem w_se_X0_wouldCount : Cond.selects RX0 yX0_wouldCount yX0_wouldCount ∈ tbG := tb1 (List.mem_of_getElem? (i := 207) rfl) rfl
theorem w_co_X0_wouldCount : Cond.code yX0_wouldCount prog_2_method_15_code 4 (some .boolean) ∈ tbG := tb1 (List.mem_of_getElem? (i := 208) rfl) rfl
theorem w_ml_X0_78 : Cond.methodLink RX0 78 yX0_lets ∈ tbG := tb1 (List.mem_of_getElem? (i := 209) rfl) rfl
theorem w_im_X0_lets : Cond.instanceMethod yX0_lets ∈ tbG := tb1 (List.mem_of_getElem? (i := 211) rfl) rfl
theorem w_co_X0_lets : Cond.code yX0_lets prog_2_method_16_code 4 (some .boolean) ∈ tbG := tb1 (List.mem_of_getElem? (i := 212) rfl) rfl
theorem w_ml_X0_81 : Cond.methodLink RX0 81 yX0_isInTime ∈ tbG := tb1 (List.mem_of_getElem? (i := 213) rfl) rfl
theorem w_im_X0_isInTime : Cond.instanceMethod yX0_isInTime ∈ tbG := tb1 (List.mem_of_getElem? (i := 215) rfl) rfl
theorem w_co_X0_isInTime : Cond.code yX0_isInTime prog_2_method_17_code 3 (some .boolean) ∈ tbG := tb1 (List.mem_of_getElem? (i := 216) rfl) rfl
theorem w_ml_X0_69 : Cond.methodLink RX0 69 yX0_isDone ∈ tbG := tb1 (List.mem_of_getElem? (i := 217) rfl) rfl
theorem w_im_X0_isDone : Cond.instanceMethod yX0_isDone ∈ tbG := tb1 (List.mem_of_getElem? (i := 218) rfl) rfl
theorem w_se_X0_isDone : Cond.selects RX0 yX0_isDone yX0_isDone ∈ tbG := tb1 (List.mem_of_getElem? (i := 219) rfl) rfl
theorem w_co_X0_isDone : Cond.code yX0_isDone prog_2_method_10_code 3 (some .boolean) ∈ tbG := tb1 (List.mem_of_getElem? (i := 220) rfl) rfl
theorem w_ml_X0_72 : Cond.methodLink RX0 72 yX0_isHealed ∈ tbG := tb1 (List.mem_of_getElem? (i := 221) rfl) rfl
theorem w_im_X0_isHealed : Cond.instanceMethod yX0_isHealed ∈ tbG := tb1 (List.mem_of_getElem? (i := 223) rfl) rfl
theorem w_co_X0_isHealed : Cond.code yX0_isHealed prog_2_method_12_code 4 (some .boolean) ∈ tbG := tb1 (List.mem_of_getElem? (i := 224) rfl) rfl
theorem w_ml_L_58 : Cond.methodLink RL 58 yX3_drop ∈ tbG := tb1 (List.mem_of_getElem? (i := 225) rfl) rfl
theorem w_im_X3_drop : Cond.instanceMethod yX3_drop ∈ tbG := tb1 (List.mem_of_getElem? (i := 226) rfl) rfl
theorem w_se_X3_drop : Cond.selects RX3 yX3_drop yX3_drop ∈ tbG := tb1 (List.mem_of_getElem? (i := 227) rfl) rfl
theorem w_co_X3_drop : Cond.code yX3_drop prog_1_method_12_code 1 (some .int) ∈ tbG := tb1 (List.mem_of_getElem? (i := 228) rfl) rfl
theorem w_ml_L_62 : Cond.methodLink RL 62 yX3_all ∈ tbG := tb1 (List.mem_of_getElem? (i := 229) rfl) rfl
theorem w_im_X3_all : Cond.instanceMethod yX3_all ∈ tbG := tb1 (List.mem_of_getElem? (i := 230) rfl) rfl
theorem w_se_X3_all : Cond.selects RX3 yX3_all yX3_all ∈ tbG := tb1 (List.mem_of_getElem? (i := 231) rfl) rfl
theorem w_co_X3_all : Cond.code yX3_all prog_1_method_13_code 4 (some .int) ∈ tbG := tb1 (List.mem_of_getElem? (i := 232) rfl) rfl
theorem w_ml_X3_95 : Cond.methodLink RX3 95 yX3_soundOn ∈ tbG := tb1 (List.mem_of_getElem? (i := 233) rfl) rfl
theorem w_im_X3_soundOn : Cond.instanceMethod yX3_soundOn ∈ tbG := tb1 (List.mem_of_getElem? (i := 235) rfl) rfl
theorem w_co_X3_soundOn : Cond.code yX3_soundOn prog_1_method_31_code 2 (some .int) ∈ tbG := tb1 (List.mem_of_getElem? (i := 236) rfl) rfl
theorem w_ml_X3_177 : Cond.methodLink RX3 177 yX0_unhurtOn ∈ tbG := tb1 (List.mem_of_getElem? (i := 237) rfl) rfl
theorem w_im_X0_unhurtOn : Cond.instanceMethod yX0_unhurtOn ∈ tbG := tb1 (List.mem_of_getElem? (i := 238) rfl) rfl
theorem w_se_X0_unhurtOn : Cond.selects RX0 yX0_unhurtOn yX0_unhurtOn ∈ tbG := tb1 (List.mem_of_getElem? (i := 239) rfl) rfl
theorem w_co_X0_unhurtOn : Cond.code yX0_unhurtOn prog_2_method_14_code 4 (some .int) ∈ tbG := tb2 (List.mem_of_getElem? (i := 0) rfl) rfl
theorem w_ml_X0_75 : Cond.methodLink RX0 75 yX0_isNought ∈ tbG := tb2 (List.mem_of_getElem? (i := 1) rfl) rfl
theorem w_im_X0_isNought : Cond.instanceMethod yX0_isNought ∈ tbG := tb2 (List.mem_of_getElem? (i := 2) rfl) rfl
theorem w_se_X0_isNought : Cond.selects RX0 yX0_isNought yX0_isNought ∈ tbG := tb2 (List.mem_of_getElem? (i := 3) rfl) rfl
theorem w_co_X0_isNought : Cond.code yX0_isNought prog_2_method_13_code 3 (some .boolean) ∈ tbG := tb2 (List.mem_of_getElem? (i := 4) rfl) rfl
theorem w_ml_X3_180 : Cond.methodLink RX3 180 yX1_struckBy ∈ tbG := tb2 (List.mem_of_getElem? (i := 5) rfl) rfl
theorem w_im_X1_struckBy : Cond.instanceMethod yX1_struckBy ∈ tbG := tb2 (List.mem_of_getElem? (i := 6) rfl) rfl
theorem w_se_X1_struckBy : Cond.selects RX1 yX1_struckBy yX1_struckBy ∈ tbG := tb2 (List.mem_of_getElem? (i := 7) rfl) rfl
theorem w_co_X1_struckBy : Cond.code yX1_struckBy prog_3_method_4_code 5 (some .int) ∈ tbG := tb2 (List.mem_of_getElem? (i := 8) rfl) rfl
theorem w_ml_X1_31 : Cond.methodLink RX1 31 yX1_isCounted ∈ tbG := tb2 (List.mem_of_getElem? (i := 9) rfl) rfl
theorem w_ml_X3_98 : Cond.methodLink RX3 98 yX3_exempt ∈ tbG := tb2 (List.mem_of_getElem? (i := 10) rfl) rfl
theorem w_im_X3_exempt : Cond.instanceMethod yX3_exempt ∈ tbG := tb2 (List.mem_of_getElem? (i := 12) rfl) rfl
theorem w_co_X3_exempt : Cond.code yX3_exempt prog_1_method_32_code 1 (some .int) ∈ tbG := tb2 (List.mem_of_getElem? (i := 13) rfl) rfl
theorem w_ml_X3_162 : Cond.methodLink RX3 162 yX0_goodOnes ∈ tbG := tb2 (List.mem_of_getElem? (i := 14) rfl) rfl
theorem w_im_X0_goodOnes : Cond.instanceMethod yX0_goodOnes ∈ tbG := tb2 (List.mem_of_getElem? (i := 15) rfl) rfl
theorem w_se_X0_goodOnes : Cond.selects RX0 yX0_goodOnes yX0_goodOnes ∈ tbG := tb2 (List.mem_of_getElem? (i := 16) rfl) rfl
theorem w_co_X0_goodOnes : Cond.code yX0_goodOnes prog_2_method_9_code 3 (some .int) ∈ tbG := tb2 (List.mem_of_getElem? (i := 17) rfl) rfl
theorem w_ml_X3_165 : Cond.methodLink RX3 165 yX3_exemptBy ∈ tbG := tb2 (List.mem_of_getElem? (i := 18) rfl) rfl
theorem w_sta_X3_exemptBy : Cond.static yX3_exemptBy ∈ tbG := tb2 (List.mem_of_getElem? (i := 19) rfl) rfl
theorem w_co_X3_exemptBy : Cond.code yX3_exemptBy prog_1_method_33_code 2 (some .int) ∈ tbG := tb2 (List.mem_of_getElem? (i := 20) rfl) rfl
theorem w_ml_X3_101 : Cond.methodLink RX3 101 yX0_most ∈ tbG := tb2 (List.mem_of_getElem? (i := 21) rfl) rfl
theorem w_im_X0_most : Cond.instanceMethod yX0_most ∈ tbG := tb2 (List.mem_of_getElem? (i := 22) rfl) rfl
theorem w_se_X0_most : Cond.selects RX0 yX0_most yX0_most ∈ tbG := tb2 (List.mem_of_getElem? (i := 23) rfl) rfl
theorem w_co_X0_most : Cond.code yX0_most prog_2_method_21_code 6 (some .int) ∈ tbG := tb2 (List.mem_of_getElem? (i := 24) rfl) rfl
theorem w_ml_X0_91 : Cond.methodLink RX0 91 yX0_unheld ∈ tbG := tb2 (List.mem_of_getElem? (i := 25) rfl) rfl
theorem w_im_X0_unheld : Cond.instanceMethod yX0_unheld ∈ tbG := tb2 (List.mem_of_getElem? (i := 26) rfl) rfl
theorem w_se_X0_unheld : Cond.selects RX0 yX0_unheld yX0_unheld ∈ tbG := tb2 (List.mem_of_getElem? (i := 27) rfl) rfl
theorem w_co_X0_unheld : Cond.code yX0_unheld prog_2_method_20_code 6 (some .int) ∈ tbG := tb2 (List.mem_of_getElem? (i := 28) rfl) rfl
theorem w_sta_X3_contains : Cond.static yX3_contains ∈ tbG := tb2 (List.mem_of_getElem? (i := 30) rfl) rfl
theorem w_co_X3_contains : Cond.code yX3_contains prog_1_method_29_code 2 (some .boolean) ∈ tbG := tb2 (List.mem_of_getElem? (i := 31) rfl) rfl
theorem w_ml_X0_88 : Cond.methodLink RX0 88 yX0_isHeldUp ∈ tbG := tb2 (List.mem_of_getElem? (i := 32) rfl) rfl
theorem w_im_X0_isHeldUp : Cond.instanceMethod yX0_isHeldUp ∈ tbG := tb2 (List.mem_of_getElem? (i := 34) rfl) rfl
theorem w_co_X0_isHeldUp : Cond.code yX0_isHeldUp prog_2_method_19_code 5 (some .boolean) ∈ tbG := tb2 (List.mem_of_getElem? (i := 35) rfl) rfl
theorem w_ml_X3_105 : Cond.methodLink RX3 105 yX0_least ∈ tbG := tb2 (List.mem_of_getElem? (i := 36) rfl) rfl
theorem w_im_X0_least : Cond.instanceMethod yX0_least ∈ tbG := tb2 (List.mem_of_getElem? (i := 37) rfl) rfl
theorem w_se_X0_least : Cond.selects RX0 yX0_least yX0_least ∈ tbG := tb2 (List.mem_of_getElem? (i := 38) rfl) rfl
theorem w_co_X0_least : Cond.code yX0_least prog_2_method_22_code 6 (some .int) ∈ tbG := tb2 (List.mem_of_getElem? (i := 39) rfl) rfl
theorem w_ml_X0_94 : Cond.methodLink RX0 94 yX0_heldUpOf ∈ tbG := tb2 (List.mem_of_getElem? (i := 40) rfl) rfl
theorem w_im_X0_heldUpOf : Cond.instanceMethod yX0_heldUpOf ∈ tbG := tb2 (List.mem_of_getElem? (i := 42) rfl) rfl
theorem w_co_X0_heldUpOf : Cond.code yX0_heldUpOf prog_2_method_23_code 5 (some .int) ∈ tbG := tb2 (List.mem_of_getElem? (i := 43) rfl) rfl
theorem w_ml_L_66 : Cond.methodLink RL 66 yX3_why ∈ tbG := tb2 (List.mem_of_getElem? (i := 44) rfl) rfl
theorem w_im_X3_why : Cond.instanceMethod yX3_why ∈ tbG := tb2 (List.mem_of_getElem? (i := 45) rfl) rfl
theorem w_se_X3_why : Cond.selects RX3 yX3_why yX3_why ∈ tbG := tb2 (List.mem_of_getElem? (i := 46) rfl) rfl
theorem w_co_X3_why : Cond.code yX3_why prog_1_method_14_code 4 (some .int) ∈ tbG := tb2 (List.mem_of_getElem? (i := 47) rfl) rfl
theorem w_ml_X3_108 : Cond.methodLink RX3 108 yX0_isDone ∈ tbG := tb2 (List.mem_of_getElem? (i := 48) rfl) rfl
theorem w_ml_X3_112 : Cond.methodLink RX3 112 yX0_isNought ∈ tbG := tb2 (List.mem_of_getElem? (i := 49) rfl) rfl
theorem w_ml_X3_115 : Cond.methodLink RX3 115 yX3_contains ∈ tbG := tb2 (List.mem_of_getElem? (i := 50) rfl) rfl
theorem w_ml_L_70 : Cond.methodLink RL 70 yX3_under ∈ tbG := tb2 (List.mem_of_getElem? (i := 51) rfl) rfl
theorem w_im_X3_under : Cond.instanceMethod yX3_under ∈ tbG := tb2 (List.mem_of_getElem? (i := 52) rfl) rfl
theorem w_se_X3_under : Cond.selects RX3 yX3_under yX3_under ∈ tbG := tb2 (List.mem_of_getElem? (i := 53) rfl) rfl
theorem w_co_X3_under : Cond.code yX3_under prog_1_method_15_code 5 (some .int) ∈ tbG := tb2 (List.mem_of_getElem? (i := 54) rfl) rfl
theorem w_ml_X3_118 : Cond.methodLink RX3 118 yX0_named ∈ tbG := tb2 (List.mem_of_getElem? (i := 55) rfl) rfl
theorem w_im_X0_named : Cond.instanceMethod yX0_named ∈ tbG := tb2 (List.mem_of_getElem? (i := 56) rfl) rfl
theorem w_se_X0_named : Cond.selects RX0 yX0_named yX0_named ∈ tbG := tb2 (List.mem_of_getElem? (i := 57) rfl) rfl
theorem w_co_X0_named : Cond.code yX0_named prog_2_method_7_code 4 (some .int) ∈ tbG := tb2 (List.mem_of_getElem? (i := 58) rfl) rfl
theorem w_ml_X0_45 : Cond.methodLink RX0 45 yX0_everyOne ∈ tbG := tb2 (List.mem_of_getElem? (i := 59) rfl) rfl
theorem w_im_X0_everyOne : Cond.instanceMethod yX0_everyOne ∈ tbG := tb2 (List.mem_of_getElem? (i := 61) rfl) rfl
theorem w_co_X0_everyOne : Cond.code yX0_everyOne prog_2_method_5_code 1 (some .int) ∈ tbG := tb2 (List.mem_of_getElem? (i := 62) rfl) rfl
theorem w_ml_X3_121 : Cond.methodLink RX3 121 yX0_namedByAny ∈ tbG := tb2 (List.mem_of_getElem? (i := 63) rfl) rfl
theorem w_im_X0_namedByAny : Cond.instanceMethod yX0_namedByAny ∈ tbG := tb2 (List.mem_of_getElem? (i := 64) rfl) rfl
theorem w_se_X0_namedByAny : Cond.selects RX0 yX0_namedByAny yX0_namedByAny ∈ tbG := tb2 (List.mem_of_getElem? (i := 65) rfl) rfl
theorem w_co_X0_namedByAny : Cond.code yX0_namedByAny prog_2_method_8_code 4 (some .int) ∈ tbG := tb2 (List.mem_of_getElem? (i := 66) rfl) rfl
theorem w_ml_X0_65 : Cond.methodLink RX0 65 yX0_named ∈ tbG := tb2 (List.mem_of_getElem? (i := 67) rfl) rfl
theorem w_ml_L_74 : Cond.methodLink RL 74 yX3_fall ∈ tbG := tb2 (List.mem_of_getElem? (i := 68) rfl) rfl
theorem w_im_X3_fall : Cond.instanceMethod yX3_fall ∈ tbG := tb2 (List.mem_of_getElem? (i := 69) rfl) rfl
theorem w_se_X3_fall : Cond.selects RX3 yX3_fall yX3_fall ∈ tbG := tb2 (List.mem_of_getElem? (i := 70) rfl) rfl
theorem w_co_X3_fall : Cond.code yX3_fall prog_1_method_16_code 6 (some .int) ∈ tbG := tb2 (List.mem_of_getElem? (i := 71) rfl) rfl
theorem w_ml_X3_124 : Cond.methodLink RX3 124 yX0_wouldCount ∈ tbG := tb2 (List.mem_of_getElem? (i := 72) rfl) rfl
theorem w_ml_X3_127 : Cond.methodLink RX3 127 yX3_fallen ∈ tbG := tb2 (List.mem_of_getElem? (i := 73) rfl) rfl
theorem w_im_X3_fallen : Cond.instanceMethod yX3_fallen ∈ tbG := tb2 (List.mem_of_getElem? (i := 75) rfl) rfl
theorem w_co_X3_fallen : Cond.code yX3_fallen prog_1_method_34_code 5 (some .int) ∈ tbG := tb2 (List.mem_of_getElem? (i := 76) rfl) rfl
theorem w_ml_X3_148 : Cond.methodLink RX3 148 yX3_without ∈ tbG := tb2 (List.mem_of_getElem? (i := 77) rfl) rfl
theorem w_sta_X3_without : Cond.static yX3_without ∈ tbG := tb2 (List.mem_of_getElem? (i := 78) rfl) rfl
theorem w_co_X3_without : Cond.code yX3_without prog_1_method_30_code 2 (some .int) ∈ tbG := tb2 (List.mem_of_getElem? (i := 79) rfl) rfl
theorem w_ml_X3_130 : Cond.methodLink RX3 130 yX3_stepCount ∈ tbG := tb2 (List.mem_of_getElem? (i := 80) rfl) rfl
theorem w_im_X3_stepCount : Cond.instanceMethod yX3_stepCount ∈ tbG := tb2 (List.mem_of_getElem? (i := 82) rfl) rfl
theorem w_co_X3_stepCount : Cond.code yX3_stepCount prog_1_method_35_code 4 (some .int) ∈ tbG := tb2 (List.mem_of_getElem? (i := 83) rfl) rfl
theorem w_ml_X3_133 : Cond.methodLink RX3 133 yX3_stepAt ∈ tbG := tb2 (List.mem_of_getElem? (i := 84) rfl) rfl
theorem w_im_X3_stepAt : Cond.instanceMethod yX3_stepAt ∈ tbG := tb2 (List.mem_of_getElem? (i := 86) rfl) rfl
theorem w_co_X3_stepAt : Cond.code yX3_stepAt prog_1_method_36_code 8 (some .int) ∈ tbG := tb2 (List.mem_of_getElem? (i := 87) rfl) rfl
theorem w_ml_X3_184 : Cond.methodLink RX3 184 yX0_unheld ∈ tbG := tb2 (List.mem_of_getElem? (i := 88) rfl) rfl
theorem w_ml_L_78 : Cond.methodLink RL 78 yX3_back ∈ tbG := tb2 (List.mem_of_getElem? (i := 89) rfl) rfl
theorem w_im_X3_back : Cond.instanceMethod yX3_back ∈ tbG := tb2 (List.mem_of_getElem? (i := 90) rfl) rfl
theorem w_se_X3_back : Cond.selects RX3 yX3_back yX3_back ∈ tbG := tb2 (List.mem_of_getElem? (i := 91) rfl) rfl
theorem w_co_X3_back : Cond.code yX3_back prog_1_method_17_code 5 (some .int) ∈ tbG := tb2 (List.mem_of_getElem? (i := 92) rfl) rfl
theorem w_k_X3_136 : Cond.constant RX3 136 (-1000000001) ∈ tbG := tb2 (List.mem_of_getElem? (i := 93) rfl) rfl
theorem w_k_X3_137 : Cond.constant RX3 137 (-1000000002) ∈ tbG := tb2 (List.mem_of_getElem? (i := 94) rfl) rfl
theorem w_k_X3_138 : Cond.constant RX3 138 (-1000000005) ∈ tbG := tb2 (List.mem_of_getElem? (i := 95) rfl) rfl
theorem w_ml_X3_139 : Cond.methodLink RX3 139 yX0_gain ∈ tbG := tb2 (List.mem_of_getElem? (i := 96) rfl) rfl
theorem w_im_X0_gain : Cond.instanceMethod yX0_gain ∈ tbG := tb2 (List.mem_of_getElem? (i := 97) rfl) rfl
theorem w_se_X0_gain : Cond.selects RX0 yX0_gain yX0_gain ∈ tbG := tb2 (List.mem_of_getElem? (i := 98) rfl) rfl
theorem w_co_X0_gain : Cond.code yX0_gain prog_2_method_24_code 8 (some .int) ∈ tbG := tb2 (List.mem_of_getElem? (i := 99) rfl) rfl
theorem w_ml_L_82 : Cond.methodLink RL 82 yX3_wise ∈ tbG := tb2 (List.mem_of_getElem? (i := 100) rfl) rfl
theorem w_im_X3_wise : Cond.instanceMethod yX3_wise ∈ tbG := tb2 (List.mem_of_getElem? (i := 101) rfl) rfl
theorem w_se_X3_wise : Cond.selects RX3 yX3_wise yX3_wise ∈ tbG := tb2 (List.mem_of_getElem? (i := 102) rfl) rfl
theorem w_co_X3_wise : Cond.code yX3_wise prog_1_method_18_code 3 (some .int) ∈ tbG := tb2 (List.mem_of_getElem? (i := 103) rfl) rfl
theorem w_ml_X3_142 : Cond.methodLink RX3 142 yX3_wiseWho ∈ tbG := tb2 (List.mem_of_getElem? (i := 104) rfl) rfl
theorem w_im_X3_wiseWho : Cond.instanceMethod yX3_wiseWho ∈ tbG := tb2 (List.mem_of_getElem? (i := 106) rfl) rfl
theorem w_co_X3_wiseWho : Cond.code yX3_wiseWho prog_1_method_37_code 6 (some .int) ∈ tbG := tb2 (List.mem_of_getElem? (i := 107) rfl) rfl
theorem w_ml_L_86 : Cond.methodLink RL 86 yX3_rest ∈ tbG := tb2 (List.mem_of_getElem? (i := 108) rfl) rfl
theorem w_im_X3_rest : Cond.instanceMethod yX3_rest ∈ tbG := tb2 (List.mem_of_getElem? (i := 109) rfl) rfl
theorem w_se_X3_rest : Cond.selects RX3 yX3_rest yX3_rest ∈ tbG := tb2 (List.mem_of_getElem? (i := 110) rfl) rfl
theorem w_co_X3_rest : Cond.code yX3_rest prog_1_method_19_code 6 (some .int) ∈ tbG := tb2 (List.mem_of_getElem? (i := 111) rfl) rfl
theorem w_ml_X3_145 : Cond.methodLink RX3 145 yX3_firstWiseAct ∈ tbG := tb2 (List.mem_of_getElem? (i := 112) rfl) rfl
theorem w_im_X3_firstWiseAct : Cond.instanceMethod yX3_firstWiseAct ∈ tbG := tb2 (List.mem_of_getElem? (i := 114) rfl) rfl
theorem w_co_X3_firstWiseAct : Cond.code yX3_firstWiseAct prog_1_method_38_code 4 (some .int) ∈ tbG := tb2 (List.mem_of_getElem? (i := 115) rfl) rfl
theorem w_ml_L_90 : Cond.methodLink RL 90 yX3_heal ∈ tbG := tb2 (List.mem_of_getElem? (i := 116) rfl) rfl
theorem w_im_X3_heal : Cond.instanceMethod yX3_heal ∈ tbG := tb2 (List.mem_of_getElem? (i := 117) rfl) rfl
theorem w_se_X3_heal : Cond.selects RX3 yX3_heal yX3_heal ∈ tbG := tb2 (List.mem_of_getElem? (i := 118) rfl) rfl
theorem w_co_X3_heal : Cond.code yX3_heal prog_1_method_20_code 5 (some .int) ∈ tbG := tb2 (List.mem_of_getElem? (i := 119) rfl) rfl
theorem w_ml_X3_151 : Cond.methodLink RX3 151 yX0_hasAll ∈ tbG := tb2 (List.mem_of_getElem? (i := 120) rfl) rfl
theorem w_im_X0_hasAll : Cond.instanceMethod yX0_hasAll ∈ tbG := tb2 (List.mem_of_getElem? (i := 121) rfl) rfl
theorem w_se_X0_hasAll : Cond.selects RX0 yX0_hasAll yX0_hasAll ∈ tbG := tb2 (List.mem_of_getElem? (i := 122) rfl) rfl
theorem w_co_X0_hasAll : Cond.code yX0_hasAll prog_2_method_4_code 2 (some .boolean) ∈ tbG := tb2 (List.mem_of_getElem? (i := 123) rfl) rfl
theorem w_ml_X3_154 : Cond.methodLink RX3 154 yX3_fewestHealed ∈ tbG := tb2 (List.mem_of_getElem? (i := 124) rfl) rfl
theorem w_im_X3_fewestHealed : Cond.instanceMethod yX3_fewestHealed ∈ tbG := tb2 (List.mem_of_getElem? (i := 126) rfl) rfl
theorem w_co_X3_fewestHealed : Cond.code yX3_fewestHealed prog_1_method_39_code 13 (some .int) ∈ tbG := tb2 (List.mem_of_getElem? (i := 127) rfl) rfl
theorem w_ml_X3_187 : Cond.methodLink RX3 187 yX0_doneBy ∈ tbG := tb2 (List.mem_of_getElem? (i := 128) rfl) rfl
theorem w_im_X0_doneBy : Cond.instanceMethod yX0_doneBy ∈ tbG := tb2 (List.mem_of_getElem? (i := 129) rfl) rfl
theorem w_se_X0_doneBy : Cond.selects RX0 yX0_doneBy yX0_doneBy ∈ tbG := tb2 (List.mem_of_getElem? (i := 130) rfl) rfl
theorem w_co_X0_doneBy : Cond.code yX0_doneBy prog_2_method_11_code 4 (some .int) ∈ tbG := tb2 (List.mem_of_getElem? (i := 131) rfl) rfl
theorem w_ml_X3_190 : Cond.methodLink RX3 190 yX3_indispensable ∈ tbG := tb2 (List.mem_of_getElem? (i := 132) rfl) rfl
theorem w_im_X3_indispensable : Cond.instanceMethod yX3_indispensable ∈ tbG := tb2 (List.mem_of_getElem? (i := 134) rfl) rfl
theorem w_co_X3_indispensable : Cond.code yX3_indispensable prog_1_method_41_code 7 (some .int) ∈ tbG := tb2 (List.mem_of_getElem? (i := 135) rfl) rfl
theorem w_ml_X3_193 : Cond.methodLink RX3 193 yX3_allStand ∈ tbG := tb2 (List.mem_of_getElem? (i := 136) rfl) rfl
theorem w_im_X3_allStand : Cond.instanceMethod yX3_allStand ∈ tbG := tb2 (List.mem_of_getElem? (i := 138) rfl) rfl
theorem w_co_X3_allStand : Cond.code yX3_allStand prog_1_method_40_code 4 (some .boolean) ∈ tbG := tb2 (List.mem_of_getElem? (i := 139) rfl) rfl
theorem w_ml_X3_157 : Cond.methodLink RX3 157 yJ6_bitCount_0f7a4 ∈ tbG := tb2 (List.mem_of_getElem? (i := 140) rfl) rfl
theorem w_sta_J6_bitCount_0f7a4 : Cond.static yJ6_bitCount_0f7a4 ∈ tbG := tb2 (List.mem_of_getElem? (i := 141) rfl) rfl
theorem w_co_J6_bitCount_0f7a4 : Cond.code yJ6_bitCount_0f7a4 prog_7_method_49_code 1 (some .int) ∈ tbG := tb2 (List.mem_of_getElem? (i := 142) rfl) rfl
theorem w_k_J6_265 : Cond.constant RJ6 265 (1431655765) ∈ tbG := tb2 (List.mem_of_getElem? (i := 143) rfl) rfl
theorem w_k_J6_266 : Cond.constant RJ6 266 (858993459) ∈ tbG := tb2 (List.mem_of_getElem? (i := 144) rfl) rfl
theorem w_k_J6_267 : Cond.constant RJ6 267 (252645135) ∈ tbG := tb2 (List.mem_of_getElem? (i := 145) rfl) rfl
theorem w_ml_L_94 : Cond.methodLink RL 94 yX3_pillar ∈ tbG := tb2 (List.mem_of_getElem? (i := 146) rfl) rfl
theorem w_im_X3_pillar : Cond.instanceMethod yX3_pillar ∈ tbG := tb2 (List.mem_of_getElem? (i := 147) rfl) rfl
theorem w_se_X3_pillar : Cond.selects RX3 yX3_pillar yX3_pillar ∈ tbG := tb2 (List.mem_of_getElem? (i := 148) rfl) rfl
theorem w_co_X3_pillar : Cond.code yX3_pillar prog_1_method_21_code 9 (some .int) ∈ tbG := tb2 (List.mem_of_getElem? (i := 149) rfl) rfl
theorem w_ml_L_98 : Cond.methodLink RL 98 yX3_hangs ∈ tbG := tb2 (List.mem_of_getElem? (i := 150) rfl) rfl
theorem w_im_X3_hangs : Cond.instanceMethod yX3_hangs ∈ tbG := tb2 (List.mem_of_getElem? (i := 151) rfl) rfl
theorem w_se_X3_hangs : Cond.selects RX3 yX3_hangs yX3_hangs ∈ tbG := tb2 (List.mem_of_getElem? (i := 152) rfl) rfl
theorem w_co_X3_hangs : Cond.code yX3_hangs prog_1_method_22_code 6 (some .int) ∈ tbG := tb2 (List.mem_of_getElem? (i := 153) rfl) rfl
theorem w_ml_L_102 : Cond.methodLink RL 102 yX3_safe ∈ tbG := tb2 (List.mem_of_getElem? (i := 154) rfl) rfl
theorem w_im_X3_safe : Cond.instanceMethod yX3_safe ∈ tbG := tb2 (List.mem_of_getElem? (i := 155) rfl) rfl
theorem w_se_X3_safe : Cond.selects RX3 yX3_safe yX3_safe ∈ tbG := tb2 (List.mem_of_getElem? (i := 156) rfl) rfl
theorem w_co_X3_safe : Cond.code yX3_safe prog_1_method_23_code 9 (some .int) ∈ tbG := tb2 (List.mem_of_getElem? (i := 157) rfl) rfl
theorem w_ml_X3_171 : Cond.methodLink RX3 171 yX0_askableOn ∈ tbG := tb2 (List.mem_of_getElem? (i := 158) rfl) rfl
theorem w_im_X0_askableOn : Cond.instanceMethod yX0_askableOn ∈ tbG := tb2 (List.mem_of_getElem? (i := 159) rfl) rfl
theorem w_se_X0_askableOn : Cond.selects RX0 yX0_askableOn yX0_askableOn ∈ tbG := tb2 (List.mem_of_getElem? (i := 160) rfl) rfl
theorem w_co_X0_askableOn : Cond.code yX0_askableOn prog_2_method_18_code 4 (some .int) ∈ tbG := tb2 (List.mem_of_getElem? (i := 161) rfl) rfl
theorem w_ml_X0_84 : Cond.methodLink RX0 84 yX0_wouldCount ∈ tbG := tb2 (List.mem_of_getElem? (i := 162) rfl) rfl
theorem w_ml_X3_174 : Cond.methodLink RX3 174 yX3_withstands ∈ tbG := tb2 (List.mem_of_getElem? (i := 163) rfl) rfl
theorem w_im_X3_withstands : Cond.instanceMethod yX3_withstands ∈ tbG := tb2 (List.mem_of_getElem? (i := 165) rfl) rfl
theorem w_co_X3_withstands : Cond.code yX3_withstands prog_1_method_42_code 7 (some .boolean) ∈ tbG := tb2 (List.mem_of_getElem? (i := 166) rfl) rfl
theorem w_ml_L_106 : Cond.methodLink RL 106 yX3_beside ∈ tbG := tb2 (List.mem_of_getElem? (i := 167) rfl) rfl
theorem w_im_X3_beside : Cond.instanceMethod yX3_beside ∈ tbG := tb2 (List.mem_of_getElem? (i := 168) rfl) rfl
theorem w_se_X3_beside : Cond.selects RX3 yX3_beside yX3_beside ∈ tbG := tb2 (List.mem_of_getElem? (i := 169) rfl) rfl
theorem w_co_X3_beside : Cond.code yX3_beside prog_1_method_24_code 4 (some .int) ∈ tbG := tb2 (List.mem_of_getElem? (i := 170) rfl) rfl
theorem w_ml_L_110 : Cond.methodLink RL 110 yX3_told ∈ tbG := tb2 (List.mem_of_getElem? (i := 171) rfl) rfl
theorem w_im_X3_told : Cond.instanceMethod yX3_told ∈ tbG := tb2 (List.mem_of_getElem? (i := 172) rfl) rfl
theorem w_se_X3_told : Cond.selects RX3 yX3_told yX3_told ∈ tbG := tb2 (List.mem_of_getElem? (i := 173) rfl) rfl
theorem w_co_X3_told : Cond.code yX3_told prog_1_method_25_code 2 (some .int) ∈ tbG := tb2 (List.mem_of_getElem? (i := 174) rfl) rfl
theorem w_cl_L_10 : Cond.classLink RL 10 RX4 ∈ tbG := tb2 (List.mem_of_getElem? (i := 175) rfl) rfl
theorem w_ins_X4 : Cond.instantiable RX4 21 ∈ tbG := tb2 (List.mem_of_getElem? (i := 176) rfl) rfl
theorem w_ml_L_12 : Cond.methodLink RL 12 yX4_init ∈ tbG := tb2 (List.mem_of_getElem? (i := 177) rfl) rfl
theorem w_im_X4_init : Cond.instanceMethod yX4_init ∈ tbG := tb2 (List.mem_of_getElem? (i := 178) rfl) rfl
theorem w_co_X4_init : Cond.code yX4_init prog_6_method_1_code 1 none ∈ tbG := tb2 (List.mem_of_getElem? (i := 179) rfl) rfl
theorem w_ml_X4_1 : Cond.methodLink RX4 1 (⟨"java/lang/Object", "<init>", "()V"⟩ : MethodName) ∈ tbG := tb2 (List.mem_of_getElem? (i := 180) rfl) rfl
theorem w_fl_X4_7 : Cond.fieldLink RX4 7 "FallWithModel" "dayOf" "[I" ∈ tbG := tb2 (List.mem_of_getElem? (i := 181) rfl) rfl
theorem w_fl_X4_13 : Cond.fieldLink RX4 13 "FallWithModel" "giver" "[I" ∈ tbG := tb2 (List.mem_of_getElem? (i := 182) rfl) rfl
theorem w_fl_X4_16 : Cond.fieldLink RX4 16 "FallWithModel" "taker" "[I" ∈ tbG := tb2 (List.mem_of_getElem? (i := 183) rfl) rfl
theorem w_fl_X4_19 : Cond.fieldLink RX4 19 "FallWithModel" "worth" "[I" ∈ tbG := tb2 (List.mem_of_getElem? (i := 184) rfl) rfl
theorem w_fl_X4_22 : Cond.fieldLink RX4 22 "FallWithModel" "flaw" "[I" ∈ tbG := tb2 (List.mem_of_getElem? (i := 185) rfl) rfl
theorem w_fl_X4_25 : Cond.fieldLink RX4 25 "FallWithModel" "years" "[I" ∈ tbG := tb2 (List.mem_of_getElem? (i := 186) rfl) rfl
theorem w_fl_X4_28 : Cond.fieldLink RX4 28 "FallWithModel" "healed" "[I" ∈ tbG := tb2 (List.mem_of_getElem? (i := 187) rfl) rfl
theorem w_fl_X4_78 : Cond.fieldLink RX4 78 "FallWithModel" "goodOnes" "I" ∈ tbG := tb2 (List.mem_of_getElem? (i := 188) rfl) rfl
theorem w_fl_X4_61 : Cond.fieldLink RX4 61 "FallWithModel" "acts" "I" ∈ tbG := tb2 (List.mem_of_getElem? (i := 189) rfl) rfl
theorem w_fl_X4_31 : Cond.fieldLink RX4 31 "FallWithModel" "alls" "[I" ∈ tbG := tb2 (List.mem_of_getElem? (i := 190) rfl) rfl
theorem w_fl_X4_34 : Cond.fieldLink RX4 34 "FallWithModel" "allMany" "[I" ∈ tbG := tb2 (List.mem_of_getElem? (i := 191) rfl) rfl
theorem w_fl_X4_83 : Cond.fieldLink RX4 83 "FallWithModel" "lawIs" "I" ∈ tbG := tb2 (List.mem_of_getElem? (i := 192) rfl) rfl
theorem w_fl_X4_49 : Cond.fieldLink RX4 49 "FallWithModel" "rateIs" "I" ∈ tbG := tb2 (List.mem_of_getElem? (i := 193) rfl) rfl
theorem w_fl_X4_37 : Cond.fieldLink RX4 37 "FallWithModel" "signs" "[I" ∈ tbG := tb2 (List.mem_of_getElem? (i := 194) rfl) rfl
theorem w_fl_X4_90 : Cond.fieldLink RX4 90 "FallWithModel" "signMany" "I" ∈ tbG := tb2 (List.mem_of_getElem? (i := 195) rfl) rfl
theorem w_fl_X4_40 : Cond.fieldLink RX4 40 "FallWithModel" "askAct" "[I" ∈ tbG := tb2 (List.mem_of_getElem? (i := 196) rfl) rfl
theorem w_fl_X4_43 : Cond.fieldLink RX4 43 "FallWithModel" "askWho" "[I" ∈ tbG := tb2 (List.mem_of_getElem? (i := 197) rfl) rfl
theorem w_fl_X4_46 : Cond.fieldLink RX4 46 "FallWithModel" "askDay" "[I" ∈ tbG := tb2 (List.mem_of_getElem? (i := 198) rfl) rfl
theorem w_fl_X4_101 : Cond.fieldLink RX4 101 "FallWithModel" "askings" "I" ∈ tbG := tb2 (List.mem_of_getElem? (i := 199) rfl) rfl
theorem w_fl_X4_104 : Cond.fieldLink RX4 104 "FallWithModel" "healedToo" "I" ∈ tbG := tb2 (List.mem_of_getElem? (i := 200) rfl) rfl
theorem w_fl_X4_115 : Cond.fieldLink RX4 115 "FallWithModel" "askedToo" "I" ∈ tbG := tb2 (List.mem_of_getElem? (i := 201) rfl) rfl
theorem w_ml_L_17 : Cond.methodLink RL 17 yX4_act ∈ tbG := tb3 (List.mem_of_getElem? (i := 5) rfl) rfl
theorem w_im_X4_act : Cond.instanceMethod yX4_act ∈ tbG := tb3 (List.mem_of_getElem? (i := 6) rfl) rfl
theorem w_se_X4_act : Cond.selects RX4 yX4_act yX4_act ∈ tbG := tb3 (List.mem_of_getElem? (i := 7) rfl) rfl
theorem w_co_X4_act : Cond.code yX4_act prog_6_method_8_code 5 (some .int) ∈ tbG := tb3 (List.mem_of_getElem? (i := 8) rfl) rfl
theorem w_ml_X4_64 : Cond.methodLink RX4 64 yX4_isWho ∈ tbG := tb3 (List.mem_of_getElem? (i := 9) rfl) rfl
theorem w_sta_X4_isWho : Cond.static yX4_isWho ∈ tbG := tb3 (List.mem_of_getElem? (i := 10) rfl) rfl
theorem w_co_X4_isWho : Cond.code yX4_isWho prog_6_method_6_code 1 (some .boolean) ∈ tbG := tb3 (List.mem_of_getElem? (i := 11) rfl) rfl
theorem w_kl_X4_59 : Cond.constantLong RX4 59 (3) ∈ tbG := tb3 (List.mem_of_getElem? (i := 12) rfl) rfl
theorem w_ml_X4_55 : Cond.methodLink RX4 55 yX4_in ∈ tbG := tb3 (List.mem_of_getElem? (i := 13) rfl) rfl
theorem w_sta_X4_in : Cond.static yX4_in ∈ tbG := tb3 (List.mem_of_getElem? (i := 14) rfl) rfl
theorem w_co_X4_in : Cond.code yX4_in prog_6_method_3_code 6 (some .boolean) ∈ tbG := tb3 (List.mem_of_getElem? (i := 15) rfl) rfl
theorem w_ml_X4_68 : Cond.methodLink RX4 68 yX4_isDay ∈ tbG := tb3 (List.mem_of_getElem? (i := 16) rfl) rfl
theorem w_sta_X4_isDay : Cond.static yX4_isDay ∈ tbG := tb3 (List.mem_of_getElem? (i := 17) rfl) rfl
theorem w_co_X4_isDay : Cond.code yX4_isDay prog_6_method_5_code 1 (some .boolean) ∈ tbG := tb3 (List.mem_of_getElem? (i := 18) rfl) rfl
theorem w_kl_X4_53 : Cond.constantLong RX4 53 (99) ∈ tbG := tb3 (List.mem_of_getElem? (i := 19) rfl) rfl
theorem w_ml_L_22 : Cond.methodLink RL 22 yX4_set ∈ tbG := tb3 (List.mem_of_getElem? (i := 20) rfl) rfl
theorem w_im_X4_set : Cond.instanceMethod yX4_set ∈ tbG := tb3 (List.mem_of_getElem? (i := 21) rfl) rfl
theorem w_se_X4_set : Cond.selects RX4 yX4_set yX4_set ∈ tbG := tb3 (List.mem_of_getElem? (i := 22) rfl) rfl
theorem w_co_X4_set : Cond.code yX4_set prog_6_method_9_code 5 (some .int) ∈ tbG := tb3 (List.mem_of_getElem? (i := 23) rfl) rfl
theorem w_ml_X4_71 : Cond.methodLink RX4 71 yX4_isAct ∈ tbG := tb3 (List.mem_of_getElem? (i := 24) rfl) rfl
theorem w_im_X4_isAct : Cond.instanceMethod yX4_isAct ∈ tbG := tb3 (List.mem_of_getElem? (i := 26) rfl) rfl
theorem w_co_X4_isAct : Cond.code yX4_isAct prog_6_method_7_code 2 (some .boolean) ∈ tbG := tb3 (List.mem_of_getElem? (i := 27) rfl) rfl
theorem w_kl_X4_74 : Cond.constantLong RX4 74 (-1) ∈ tbG := tb3 (List.mem_of_getElem? (i := 28) rfl) rfl
theorem w_kl_X4_76 : Cond.constantLong RX4 76 (4) ∈ tbG := tb3 (List.mem_of_getElem? (i := 29) rfl) rfl
theorem w_ml_L_27 : Cond.methodLink RL 27 yX4_law ∈ tbG := tb3 (List.mem_of_getElem? (i := 30) rfl) rfl
theorem w_im_X4_law : Cond.instanceMethod yX4_law ∈ tbG := tb3 (List.mem_of_getElem? (i := 31) rfl) rfl
theorem w_se_X4_law : Cond.selects RX4 yX4_law yX4_law ∈ tbG := tb3 (List.mem_of_getElem? (i := 32) rfl) rfl
theorem w_co_X4_law : Cond.code yX4_law prog_6_method_10_code 4 (some .int) ∈ tbG := tb3 (List.mem_of_getElem? (i := 33) rfl) rfl
theorem w_kl_X4_81 : Cond.constantLong RX4 81 (9) ∈ tbG := tb3 (List.mem_of_getElem? (i := 34) rfl) rfl
theorem w_ml_L_32 : Cond.methodLink RL 32 yX4_say ∈ tbG := tb3 (List.mem_of_getElem? (i := 35) rfl) rfl
theorem w_im_X4_say : Cond.instanceMethod yX4_say ∈ tbG := tb3 (List.mem_of_getElem? (i := 36) rfl) rfl
theorem w_se_X4_say : Cond.selects RX4 yX4_say yX4_say ∈ tbG := tb3 (List.mem_of_getElem? (i := 37) rfl) rfl
theorem w_co_X4_say : Cond.code yX4_say prog_6_method_11_code 2 (some .int) ∈ tbG := tb3 (List.mem_of_getElem? (i := 38) rfl) rfl
theorem w_kl_X4_86 : Cond.constantLong RX4 86 (33) ∈ tbG := tb3 (List.mem_of_getElem? (i := 39) rfl) rfl
theorem w_kl_X4_88 : Cond.constantLong RX4 88 (126) ∈ tbG := tb3 (List.mem_of_getElem? (i := 40) rfl) rfl
theorem w_ml_L_37 : Cond.methodLink RL 37 yX4_wipe ∈ tbG := tb3 (List.mem_of_getElem? (i := 41) rfl) rfl
theorem w_im_X4_wipe : Cond.instanceMethod yX4_wipe ∈ tbG := tb3 (List.mem_of_getElem? (i := 42) rfl) rfl
theorem w_se_X4_wipe : Cond.selects RX4 yX4_wipe yX4_wipe ∈ tbG := tb3 (List.mem_of_getElem? (i := 43) rfl) rfl
theorem w_co_X4_wipe : Cond.code yX4_wipe prog_6_method_12_code 2 (some .int) ∈ tbG := tb3 (List.mem_of_getElem? (i := 44) rfl) rfl
theorem w_ml_L_41 : Cond.methodLink RL 41 yX4_fault ∈ tbG := tb3 (List.mem_of_getElem? (i := 45) rfl) rfl
theorem w_im_X4_fault : Cond.instanceMethod yX4_fault ∈ tbG := tb3 (List.mem_of_getElem? (i := 46) rfl) rfl
theorem w_se_X4_fault : Cond.selects RX4 yX4_fault yX4_fault ∈ tbG := tb3 (List.mem_of_getElem? (i := 47) rfl) rfl
theorem w_co_X4_fault : Cond.code yX4_fault prog_6_method_13_code 4 (some .int) ∈ tbG := tb3 (List.mem_of_getElem? (i := 48) rfl) rfl
theorem w_kl_X4_93 : Cond.constantLong RX4 93 (97) ∈ tbG := tb3 (List.mem_of_getElem? (i := 49) rfl) rfl
theorem w_kl_X4_95 : Cond.constantLong RX4 95 (108) ∈ tbG := tb3 (List.mem_of_getElem? (i := 50) rfl) rfl
theorem w_ml_L_45 : Cond.methodLink RL 45 yX4_leans ∈ tbG := tb3 (List.mem_of_getElem? (i := 51) rfl) rfl
theorem w_im_X4_leans : Cond.instanceMethod yX4_leans ∈ tbG := tb3 (List.mem_of_getElem? (i := 52) rfl) rfl
theorem w_se_X4_leans : Cond.selects RX4 yX4_leans yX4_leans ∈ tbG := tb3 (List.mem_of_getElem? (i := 53) rfl) rfl
theorem w_co_X4_leans : Cond.code yX4_leans prog_6_method_14_code 5 (some .int) ∈ tbG := tb3 (List.mem_of_getElem? (i := 54) rfl) rfl
theorem w_ml_X4_97 : Cond.methodLink RX4 97 yX4_fault ∈ tbG := tb3 (List.mem_of_getElem? (i := 55) rfl) rfl
theorem w_ml_L_49 : Cond.methodLink RL 49 yX4_free ∈ tbG := tb3 (List.mem_of_getElem? (i := 56) rfl) rfl
theorem w_im_X4_free : Cond.instanceMethod yX4_free ∈ tbG := tb3 (List.mem_of_getElem? (i := 57) rfl) rfl
theorem w_se_X4_free : Cond.selects RX4 yX4_free yX4_free ∈ tbG := tb3 (List.mem_of_getElem? (i := 58) rfl) rfl
theorem w_co_X4_free : Cond.code yX4_free prog_6_method_15_code 3 (some .int) ∈ tbG := tb3 (List.mem_of_getElem? (i := 59) rfl) rfl
theorem w_ml_L_53 : Cond.methodLink RL 53 yX4_ask ∈ tbG := tb3 (List.mem_of_getElem? (i := 60) rfl) rfl
theorem w_im_X4_ask : Cond.instanceMethod yX4_ask ∈ tbG := tb3 (List.mem_of_getElem? (i := 61) rfl) rfl
theorem w_se_X4_ask : Cond.selects RX4 yX4_ask yX4_ask ∈ tbG := tb3 (List.mem_of_getElem? (i := 62) rfl) rfl
theorem w_co_X4_ask : Cond.code yX4_ask prog_6_method_17_code 4 (some .int) ∈ tbG := tb3 (List.mem_of_getElem? (i := 63) rfl) rfl
theorem w_ml_L_57 : Cond.methodLink RL 57 yX4_counts ∈ tbG := tb3 (List.mem_of_getElem? (i := 64) rfl) rfl
theorem w_im_X4_counts : Cond.instanceMethod yX4_counts ∈ tbG := tb3 (List.mem_of_getElem? (i := 65) rfl) rfl
theorem w_se_X4_counts : Cond.selects RX4 yX4_counts yX4_counts ∈ tbG := tb3 (List.mem_of_getElem? (i := 66) rfl) rfl
theorem w_co_X4_counts : Cond.code yX4_counts prog_6_method_20_code 2 (some .int) ∈ tbG := tb3 (List.mem_of_getElem? (i := 67) rfl) rfl
theorem w_ml_X4_111 : Cond.methodLink RX4 111 yX4_wouldCount ∈ tbG := tb3 (List.mem_of_getElem? (i := 68) rfl) rfl
theorem w_im_X4_wouldCount : Cond.instanceMethod yX4_wouldCount ∈ tbG := tb3 (List.mem_of_getElem? (i := 70) rfl) rfl
theorem w_co_X4_wouldCount : Cond.code yX4_wouldCount prog_6_method_19_code 6 (some .boolean) ∈ tbG := tb3 (List.mem_of_getElem? (i := 71) rfl) rfl
theorem w_ml_X4_107 : Cond.methodLink RX4 107 yX4_isHealed ∈ tbG := tb3 (List.mem_of_getElem? (i := 72) rfl) rfl
theorem w_im_X4_isHealed : Cond.instanceMethod yX4_isHealed ∈ tbG := tb3 (List.mem_of_getElem? (i := 74) rfl) rfl
theorem w_co_X4_isHealed : Cond.code yX4_isHealed prog_6_method_18_code 3 (some .boolean) ∈ tbG := tb3 (List.mem_of_getElem? (i := 75) rfl) rfl
theorem w_ml_L_61 : Cond.methodLink RL 61 yX4_drop ∈ tbG := tb3 (List.mem_of_getElem? (i := 76) rfl) rfl
theorem w_im_X4_drop : Cond.instanceMethod yX4_drop ∈ tbG := tb3 (List.mem_of_getElem? (i := 77) rfl) rfl
theorem w_se_X4_drop : Cond.selects RX4 yX4_drop yX4_drop ∈ tbG := tb3 (List.mem_of_getElem? (i := 78) rfl) rfl
theorem w_co_X4_drop : Cond.code yX4_drop prog_6_method_21_code 1 (some .int) ∈ tbG := tb3 (List.mem_of_getElem? (i := 79) rfl) rfl
theorem w_ml_L_65 : Cond.methodLink RL 65 yX4_all ∈ tbG := tb3 (List.mem_of_getElem? (i := 80) rfl) rfl
theorem w_im_X4_all : Cond.instanceMethod yX4_all ∈ tbG := tb3 (List.mem_of_getElem? (i := 81) rfl) rfl
theorem w_se_X4_all : Cond.selects RX4 yX4_all yX4_all ∈ tbG := tb3 (List.mem_of_getElem? (i := 82) rfl) rfl
theorem w_co_X4_all : Cond.code yX4_all prog_6_method_29_code 4 (some .int) ∈ tbG := tb3 (List.mem_of_getElem? (i := 83) rfl) rfl
theorem w_kl_X4_137 : Cond.constantLong RX4 137 (2) ∈ tbG := tb3 (List.mem_of_getElem? (i := 84) rfl) rfl
theorem w_ml_X4_131 : Cond.methodLink RX4 131 yX4_soundOf ∈ tbG := tb3 (List.mem_of_getElem? (i := 85) rfl) rfl
theorem w_im_X4_soundOf : Cond.instanceMethod yX4_soundOf ∈ tbG := tb3 (List.mem_of_getElem? (i := 87) rfl) rfl
theorem w_co_X4_soundOf : Cond.code yX4_soundOf prog_6_method_24_code 4 (some .int) ∈ tbG := tb3 (List.mem_of_getElem? (i := 88) rfl) rfl
theorem w_ml_X4_121 : Cond.methodLink RX4 121 yX4_isSound ∈ tbG := tb3 (List.mem_of_getElem? (i := 89) rfl) rfl
theorem w_im_X4_isSound : Cond.instanceMethod yX4_isSound ∈ tbG := tb3 (List.mem_of_getElem? (i := 91) rfl) rfl
theorem w_co_X4_isSound : Cond.code yX4_isSound prog_6_method_23_code 3 (some .boolean) ∈ tbG := tb3 (List.mem_of_getElem? (i := 92) rfl) rfl
theorem w_ml_X4_118 : Cond.methodLink RX4 118 yX4_isAsked ∈ tbG := tb3 (List.mem_of_getElem? (i := 93) rfl) rfl
theorem w_im_X4_isAsked : Cond.instanceMethod yX4_isAsked ∈ tbG := tb3 (List.mem_of_getElem? (i := 95) rfl) rfl
theorem w_co_X4_isAsked : Cond.code yX4_isAsked prog_6_method_22_code 5 (some .boolean) ∈ tbG := tb3 (List.mem_of_getElem? (i := 96) rfl) rfl
theorem w_ml_X4_134 : Cond.methodLink RX4 134 yX4_mostOf ∈ tbG := tb3 (List.mem_of_getElem? (i := 97) rfl) rfl
theorem w_im_X4_mostOf : Cond.instanceMethod yX4_mostOf ∈ tbG := tb3 (List.mem_of_getElem? (i := 99) rfl) rfl
theorem w_co_X4_mostOf : Cond.code yX4_mostOf prog_6_method_26_code 4 (some .int) ∈ tbG := tb3 (List.mem_of_getElem? (i := 100) rfl) rfl
theorem w_ml_X4_127 : Cond.methodLink RX4 127 yX4_loose ∈ tbG := tb3 (List.mem_of_getElem? (i := 101) rfl) rfl
theorem w_im_X4_loose : Cond.instanceMethod yX4_loose ∈ tbG := tb3 (List.mem_of_getElem? (i := 103) rfl) rfl
theorem w_co_X4_loose : Cond.code yX4_loose prog_6_method_25_code 4 (some .int) ∈ tbG := tb3 (List.mem_of_getElem? (i := 104) rfl) rfl
theorem w_ml_X4_124 : Cond.methodLink RX4 124 yX4_isHeld ∈ tbG := tb3 (List.mem_of_getElem? (i := 105) rfl) rfl
theorem w_im_X4_isHeld : Cond.instanceMethod yX4_isHeld ∈ tbG := tb3 (List.mem_of_getElem? (i := 107) rfl) rfl
theorem w_co_X4_isHeld : Cond.code yX4_isHeld prog_6_method_16_code 5 (some .boolean) ∈ tbG := tb3 (List.mem_of_getElem? (i := 108) rfl) rfl
theorem w_ml_X4_139 : Cond.methodLink RX4 139 yX4_leastOf ∈ tbG := tb3 (List.mem_of_getElem? (i := 109) rfl) rfl
theorem w_im_X4_leastOf : Cond.instanceMethod yX4_leastOf ∈ tbG := tb3 (List.mem_of_getElem? (i := 111) rfl) rfl
theorem w_co_X4_leastOf : Cond.code yX4_leastOf prog_6_method_27_code 5 (some .int) ∈ tbG := tb3 (List.mem_of_getElem? (i := 112) rfl) rfl
theorem w_ml_L_69 : Cond.methodLink RL 69 yX4_why ∈ tbG := tb3 (List.mem_of_getElem? (i := 113) rfl) rfl
theorem w_im_X4_why : Cond.instanceMethod yX4_why ∈ tbG := tb3 (List.mem_of_getElem? (i := 114) rfl) rfl
theorem w_se_X4_why : Cond.selects RX4 yX4_why yX4_why ∈ tbG := tb3 (List.mem_of_getElem? (i := 115) rfl) rfl
theorem w_co_X4_why : Cond.code yX4_why prog_6_method_30_code 3 (some .int) ∈ tbG := tb3 (List.mem_of_getElem? (i := 116) rfl) rfl
theorem w_ml_X4_142 : Cond.methodLink RX4 142 yX4_standing ∈ tbG := tb3 (List.mem_of_getElem? (i := 117) rfl) rfl
theorem w_im_X4_standing : Cond.instanceMethod yX4_standing ∈ tbG := tb3 (List.mem_of_getElem? (i := 119) rfl) rfl
theorem w_co_X4_standing : Cond.code yX4_standing prog_6_method_28_code 2 (some .int) ∈ tbG := tb3 (List.mem_of_getElem? (i := 120) rfl) rfl
theorem w_ml_L_73 : Cond.methodLink RL 73 yX4_under ∈ tbG := tb3 (List.mem_of_getElem? (i := 121) rfl) rfl
theorem w_im_X4_under : Cond.instanceMethod yX4_under ∈ tbG := tb3 (List.mem_of_getElem? (i := 122) rfl) rfl
theorem w_se_X4_under : Cond.selects RX4 yX4_under yX4_under ∈ tbG := tb3 (List.mem_of_getElem? (i := 123) rfl) rfl
theorem w_co_X4_under : Cond.code yX4_under prog_6_method_32_code 5 (some .int) ∈ tbG := tb3 (List.mem_of_getElem? (i := 124) rfl) rfl
theorem w_ml_X4_145 : Cond.methodLink RX4 145 yX4_namedBy ∈ tbG := tb3 (List.mem_of_getElem? (i := 125) rfl) rfl
theorem w_im_X4_namedBy : Cond.instanceMethod yX4_namedBy ∈ tbG := tb3 (List.mem_of_getElem? (i := 127) rfl) rfl
theorem w_co_X4_namedBy : Cond.code yX4_namedBy prog_6_method_31_code 4 (some .int) ∈ tbG := tb3 (List.mem_of_getElem? (i := 128) rfl) rfl
theorem w_ml_L_77 : Cond.methodLink RL 77 yX4_fall ∈ tbG := tb3 (List.mem_of_getElem? (i := 129) rfl) rfl
theorem w_im_X4_fall : Cond.instanceMethod yX4_fall ∈ tbG := tb3 (List.mem_of_getElem? (i := 130) rfl) rfl
theorem w_se_X4_fall : Cond.selects RX4 yX4_fall yX4_fall ∈ tbG := tb3 (List.mem_of_getElem? (i := 131) rfl) rfl
theorem w_co_X4_fall : Cond.code yX4_fall prog_6_method_34_code 8 (some .int) ∈ tbG := tb3 (List.mem_of_getElem? (i := 132) rfl) rfl
theorem w_ml_X4_148 : Cond.methodLink RX4 148 yX4_fallOf ∈ tbG := tb3 (List.mem_of_getElem? (i := 133) rfl) rfl
theorem w_im_X4_fallOf : Cond.instanceMethod yX4_fallOf ∈ tbG := tb3 (List.mem_of_getElem? (i := 135) rfl) rfl
theorem w_co_X4_fallOf : Cond.code yX4_fallOf prog_6_method_33_code 4 (some .int) ∈ tbG := tb3 (List.mem_of_getElem? (i := 136) rfl) rfl
theorem w_ml_L_81 : Cond.methodLink RL 81 yX4_back ∈ tbG := tb3 (List.mem_of_getElem? (i := 137) rfl) rfl
theorem w_im_X4_back : Cond.instanceMethod yX4_back ∈ tbG := tb3 (List.mem_of_getElem? (i := 138) rfl) rfl
theorem w_se_X4_back : Cond.selects RX4 yX4_back yX4_back ∈ tbG := tb3 (List.mem_of_getElem? (i := 139) rfl) rfl
theorem w_co_X4_back : Cond.code yX4_back prog_6_method_36_code 5 (some .int) ∈ tbG := tb3 (List.mem_of_getElem? (i := 140) rfl) rfl
theorem w_k_X4_152 : Cond.constant RX4 152 (-1000000001) ∈ tbG := tb3 (List.mem_of_getElem? (i := 141) rfl) rfl
theorem w_k_X4_153 : Cond.constant RX4 153 (-1000000002) ∈ tbG := tb3 (List.mem_of_getElem? (i := 142) rfl) rfl
theorem w_ml_X4_154 : Cond.methodLink RX4 154 yX4_backOf ∈ tbG := tb3 (List.mem_of_getElem? (i := 143) rfl) rfl
theorem w_im_X4_backOf : Cond.instanceMethod yX4_backOf ∈ tbG := tb3 (List.mem_of_getElem? (i := 145) rfl) rfl
theorem w_co_X4_backOf : Cond.code yX4_backOf prog_6_method_35_code 8 (some .int) ∈ tbG := tb3 (List.mem_of_getElem? (i := 146) rfl) rfl
theorem w_k_X4_158 : Cond.constant RX4 158 (-1000000005) ∈ tbG := tb3 (List.mem_of_getElem? (i := 147) rfl) rfl
theorem w_ml_L_85 : Cond.methodLink RL 85 yX4_wise ∈ tbG := tb3 (List.mem_of_getElem? (i := 148) rfl) rfl
theorem w_im_X4_wise : Cond.instanceMethod yX4_wise ∈ tbG := tb3 (List.mem_of_getElem? (i := 149) rfl) rfl
theorem w_se_X4_wise : Cond.selects RX4 yX4_wise yX4_wise ∈ tbG := tb3 (List.mem_of_getElem? (i := 150) rfl) rfl
theorem w_co_X4_wise : Cond.code yX4_wise prog_6_method_38_code 3 (some .int) ∈ tbG := tb3 (List.mem_of_getElem? (i := 151) rfl) rfl
theorem w_ml_X4_159 : Cond.methodLink RX4 159 yX4_wiseOf ∈ tbG := tb3 (List.mem_of_getElem? (i := 152) rfl) rfl
theorem w_im_X4_wiseOf : Cond.instanceMethod yX4_wiseOf ∈ tbG := tb3 (List.mem_of_getElem? (i := 154) rfl) rfl
theorem w_co_X4_wiseOf : Cond.code yX4_wiseOf prog_6_method_37_code 4 (some .int) ∈ tbG := tb3 (List.mem_of_getElem? (i := 155) rfl) rfl
theorem w_ml_L_89 : Cond.methodLink RL 89 yX4_rest ∈ tbG := tb3 (List.mem_of_getElem? (i := 156) rfl) rfl
theorem w_im_X4_rest : Cond.instanceMethod yX4_rest ∈ tbG := tb3 (List.mem_of_getElem? (i := 157) rfl) rfl
theorem w_se_X4_rest : Cond.selects RX4 yX4_rest yX4_rest ∈ tbG := tb3 (List.mem_of_getElem? (i := 158) rfl) rfl
theorem w_co_X4_rest : Cond.code yX4_rest prog_6_method_39_code 6 (some .int) ∈ tbG := tb3 (List.mem_of_getElem? (i := 159) rfl) rfl
theorem w_ml_L_93 : Cond.methodLink RL 93 yX4_heal ∈ tbG := tb3 (List.mem_of_getElem? (i := 160) rfl) rfl
theorem w_im_X4_heal : Cond.instanceMethod yX4_heal ∈ tbG := tb3 (List.mem_of_getElem? (i := 161) rfl) rfl
theorem w_se_X4_heal : Cond.selects RX4 yX4_heal yX4_heal ∈ tbG := tb3 (List.mem_of_getElem? (i := 162) rfl) rfl
theorem w_co_X4_heal : Cond.code yX4_heal prog_6_method_41_code 8 (some .int) ∈ tbG := tb3 (List.mem_of_getElem? (i := 163) rfl) rfl
theorem w_ml_X4_162 : Cond.methodLink RX4 162 yX4_isSet ∈ tbG := tb3 (List.mem_of_getElem? (i := 164) rfl) rfl
theorem w_im_X4_isSet : Cond.instanceMethod yX4_isSet ∈ tbG := tb3 (List.mem_of_getElem? (i := 166) rfl) rfl
theorem w_co_X4_isSet : Cond.code yX4_isSet prog_6_method_40_code 2 (some .boolean) ∈ tbG := tb3 (List.mem_of_getElem? (i := 167) rfl) rfl
theorem w_ml_X4_165 : Cond.methodLink RX4 165 yX4_ones ∈ tbG := tb3 (List.mem_of_getElem? (i := 168) rfl) rfl
theorem w_sta_X4_ones : Cond.static yX4_ones ∈ tbG := tb3 (List.mem_of_getElem? (i := 169) rfl) rfl
theorem w_co_X4_ones : Cond.code yX4_ones prog_6_method_4_code 3 (some .int) ∈ tbG := tb3 (List.mem_of_getElem? (i := 170) rfl) rfl
theorem w_ml_L_97 : Cond.methodLink RL 97 yX4_pillar ∈ tbG := tb3 (List.mem_of_getElem? (i := 171) rfl) rfl
theorem w_im_X4_pillar : Cond.instanceMethod yX4_pillar ∈ tbG := tb3 (List.mem_of_getElem? (i := 172) rfl) rfl
theorem w_se_X4_pillar : Cond.selects RX4 yX4_pillar yX4_pillar ∈ tbG := tb3 (List.mem_of_getElem? (i := 173) rfl) rfl
theorem w_co_X4_pillar : Cond.code yX4_pillar prog_6_method_42_code 9 (some .int) ∈ tbG := tb3 (List.mem_of_getElem? (i := 174) rfl) rfl
theorem w_ml_L_101 : Cond.methodLink RL 101 yX4_hangs ∈ tbG := tb3 (List.mem_of_getElem? (i := 175) rfl) rfl
theorem w_im_X4_hangs : Cond.instanceMethod yX4_hangs ∈ tbG := tb3 (List.mem_of_getElem? (i := 176) rfl) rfl
theorem w_se_X4_hangs : Cond.selects RX4 yX4_hangs yX4_hangs ∈ tbG := tb3 (List.mem_of_getElem? (i := 177) rfl) rfl
theorem w_co_X4_hangs : Cond.code yX4_hangs prog_6_method_43_code 11 (some .int) ∈ tbG := tb3 (List.mem_of_getElem? (i := 178) rfl) rfl
theorem w_ml_L_105 : Cond.methodLink RL 105 yX4_safe ∈ tbG := tb3 (List.mem_of_getElem? (i := 179) rfl) rfl
theorem w_im_X4_safe : Cond.instanceMethod yX4_safe ∈ tbG := tb3 (List.mem_of_getElem? (i := 180) rfl) rfl
theorem w_se_X4_safe : Cond.selects RX4 yX4_safe yX4_safe ∈ tbG := tb3 (List.mem_of_getElem? (i := 181) rfl) rfl
theorem w_co_X4_safe : Cond.code yX4_safe prog_6_method_45_code 3 (some .int) ∈ tbG := tb3 (List.mem_of_getElem? (i := 182) rfl) rfl
theorem w_ml_X4_168 : Cond.methodLink RX4 168 yX4_isSafeOn ∈ tbG := tb3 (List.mem_of_getElem? (i := 183) rfl) rfl
theorem w_im_X4_isSafeOn : Cond.instanceMethod yX4_isSafeOn ∈ tbG := tb3 (List.mem_of_getElem? (i := 185) rfl) rfl
theorem w_co_X4_isSafeOn : Cond.code yX4_isSafeOn prog_6_method_44_code 8 (some .boolean) ∈ tbG := tb3 (List.mem_of_getElem? (i := 186) rfl) rfl
theorem w_ml_L_109 : Cond.methodLink RL 109 yX4_beside ∈ tbG := tb3 (List.mem_of_getElem? (i := 187) rfl) rfl
theorem w_im_X4_beside : Cond.instanceMethod yX4_beside ∈ tbG := tb3 (List.mem_of_getElem? (i := 188) rfl) rfl
theorem w_se_X4_beside : Cond.selects RX4 yX4_beside yX4_beside ∈ tbG := tb3 (List.mem_of_getElem? (i := 189) rfl) rfl
theorem w_co_X4_beside : Cond.code yX4_beside prog_6_method_46_code 6 (some .int) ∈ tbG := tb3 (List.mem_of_getElem? (i := 190) rfl) rfl
theorem w_ml_L_113 : Cond.methodLink RL 113 yX4_told ∈ tbG := tb3 (List.mem_of_getElem? (i := 191) rfl) rfl
theorem w_im_X4_told : Cond.instanceMethod yX4_told ∈ tbG := tb3 (List.mem_of_getElem? (i := 192) rfl) rfl
theorem w_se_X4_told : Cond.selects RX4 yX4_told yX4_told ∈ tbG := tb3 (List.mem_of_getElem? (i := 193) rfl) rfl
theorem w_co_X4_told : Cond.code yX4_told prog_6_method_47_code 2 (some .int) ∈ tbG := tb3 (List.mem_of_getElem? (i := 194) rfl) rfl
theorem w_kl_X4_171 : Cond.constantLong RX4 171 (10) ∈ tbG := tb3 (List.mem_of_getElem? (i := 195) rfl) rfl
theorem w_kl_X4_173 : Cond.constantLong RX4 173 (21) ∈ tbG := tb3 (List.mem_of_getElem? (i := 196) rfl) rfl
theorem inX0 : ∀ w ∈ u_ws RX0 TX0 8, w ∈ tbG := fun w h => tbG_in ((by decide +kernel : ∀ w ∈ u_ws RX0 TX0 8, w ∈ lw_tbl) w h) ((by decide +kernel : ∀ w ∈ u_ws RX0 TX0 8, goodWord w = true) w h)
theorem inX1 : ∀ w ∈ u_ws RX1 TX1 4, w ∈ tbG := fun w h => tbG_in ((by decide +kernel : ∀ w ∈ u_ws RX1 TX1 4, w ∈ lw_tbl) w h) ((by decide +kernel : ∀ w ∈ u_ws RX1 TX1 4, goodWord w = true) w h)
theorem inX2 : ∀ w ∈ u_ws RX2 TX2 2, w ∈ tbG := fun w h => tbG_in ((by decide +kernel : ∀ w ∈ u_ws RX2 TX2 2, w ∈ lw_tbl) w h) ((by decide +kernel : ∀ w ∈ u_ws RX2 TX2 2, goodWord w = true) w h)
theorem inX3 : ∀ w ∈ u_ws RX3 TX3 5, w ∈ tbG := fun w h => tbG_in ((by decide +kernel : ∀ w ∈ u_ws RX3 TX3 5, w ∈ lw_tbl) w h) ((by decide +kernel : ∀ w ∈ u_ws RX3 TX3 5, goodWord w = true) w h)
theorem inX4 : ∀ w ∈ u_ws RX4 TX4 21, w ∈ tbG := fun w h => tbG_in ((by decide +kernel : ∀ w ∈ u_ws RX4 TX4 21, w ∈ lw_tbl) w h) ((by decide +kernel : ∀ w ∈ u_ws RX4 TX4 21, goodWord w = true) w h)
