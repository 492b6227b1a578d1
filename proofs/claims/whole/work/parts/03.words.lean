def TT : List Cond := lw_tbl.filter goodWord
theorem tt_1 {w : Cond} (h : w ∈ tables_1_1) (g : goodWord w = true) : w ∈ TT := List.mem_filter.mpr ⟨List.mem_append_right _ (List.mem_append_left _ h), g⟩
theorem tt_2 {w : Cond} (h : w ∈ tables_1_2) (g : goodWord w = true) : w ∈ TT := List.mem_filter.mpr ⟨List.mem_append_right _ (List.mem_append_right _ (List.mem_append_left _ h)), g⟩
theorem tt_3 {w : Cond} (h : w ∈ tables_1_3) (g : goodWord w = true) : w ∈ TT := List.mem_filter.mpr ⟨List.mem_append_right _ (List.mem_append_right _ (List.mem_append_right _ (List.mem_append_left _ h))), g⟩
theorem tt_4 {w : Cond} (h : w ∈ tables_1_4) (g : goodWord w = true) : w ∈ TT := List.mem_filter.mpr ⟨List.mem_append_right _ (List.mem_append_right _ (List.mem_append_right _ (List.mem_append_right _ (List.mem_append_left _ h)))), g⟩
theorem tt_5 {w : Cond} (h : w ∈ tables_1_5) (g : goodWord w = true) : w ∈ TT := List.mem_filter.mpr ⟨List.mem_append_right _ (List.mem_append_right _ (List.mem_append_right _ (List.mem_append_right _ (List.mem_append_right _ (List.mem_append_left _ h))))), g⟩
theorem tt_6 {w : Cond} (h : w ∈ tables_1_6) (g : goodWord w = true) : w ∈ TT := List.mem_filter.mpr ⟨List.mem_append_right _ (List.mem_append_right _ (List.mem_append_right _ (List.mem_append_right _ (List.mem_append_right _ (List.mem_append_right _ (List.mem_append_left _ h)))))), g⟩
theorem tt_7 {w : Cond} (h : w ∈ tables_1_7) (g : goodWord w = true) : w ∈ TT := List.mem_filter.mpr ⟨List.mem_append_right _ (List.mem_append_right _ (List.mem_append_right _ (List.mem_append_right _ (List.mem_append_right _ (List.mem_append_right _ (List.mem_append_right _ (List.mem_append_left _ h))))))), g⟩
theorem tt_8 {w : Cond} (h : w ∈ tables_1_8) (g : goodWord w = true) : w ∈ TT := List.mem_filter.mpr ⟨List.mem_append_right _ (List.mem_append_right _ (List.mem_append_right _ (List.mem_append_right _ (List.mem_append_right _ (List.mem_append_right _ (List.mem_append_right _ (List.mem_append_right _ (h)))))))), g⟩
theorem tt_0 {w : Cond} (h : w ∈ k2_sels lw_privs) (g : goodWord w = true) : w ∈ TT := List.mem_filter.mpr ⟨List.mem_append_left _ h, g⟩
theorem kj_L : (Cond.initialized RL) ∈ TT := tt_1 (List.mem_of_getElem? (i := 0) rfl) rfl
theorem kj_X11 : (Cond.initialized RX11) ∈ TT := tt_1 (List.mem_of_getElem? (i := 1) rfl) rfl
theorem kj_X3 : (Cond.initialized RX3) ∈ TT := tt_1 (List.mem_of_getElem? (i := 2) rfl) rfl
theorem kj_X10 : (Cond.initialized RX10) ∈ TT := tt_1 (List.mem_of_getElem? (i := 3) rfl) rfl
theorem kj_X7 : (Cond.initialized RX7) ∈ TT := tt_1 (List.mem_of_getElem? (i := 4) rfl) rfl
theorem kj_X6 : (Cond.initialized RX6) ∈ TT := tt_1 (List.mem_of_getElem? (i := 5) rfl) rfl
theorem kj_X9 : (Cond.initialized RX9) ∈ TT := tt_1 (List.mem_of_getElem? (i := 6) rfl) rfl
theorem kj_X1 : (Cond.initialized RX1) ∈ TT := tt_1 (List.mem_of_getElem? (i := 7) rfl) rfl
theorem kj_X8 : (Cond.initialized RX8) ∈ TT := tt_1 (List.mem_of_getElem? (i := 8) rfl) rfl
theorem kj_X4 : (Cond.initialized RX4) ∈ TT := tt_1 (List.mem_of_getElem? (i := 9) rfl) rfl
theorem kj_X0 : (Cond.initialized RX0) ∈ TT := tt_1 (List.mem_of_getElem? (i := 10) rfl) rfl
theorem kj_X5 : (Cond.initialized RX5) ∈ TT := tt_1 (List.mem_of_getElem? (i := 11) rfl) rfl
theorem kj_X2 : (Cond.initialized RX2) ∈ TT := tt_1 (List.mem_of_getElem? (i := 12) rfl) rfl
theorem kj_X12 : (Cond.initialized RX12) ∈ TT := tt_1 (List.mem_of_getElem? (i := 13) rfl) rfl
theorem kj_J9 : (Cond.initialized RJ9) ∈ TT := tt_1 (List.mem_of_getElem? (i := 14) rfl) rfl
theorem kj_J10 : (Cond.initialized RJ10) ∈ TT := tt_1 (List.mem_of_getElem? (i := 15) rfl) rfl
theorem kj_J0 : (Cond.initialized RJ0) ∈ TT := tt_1 (List.mem_of_getElem? (i := 16) rfl) rfl
theorem kj_J1 : (Cond.initialized RJ1) ∈ TT := tt_1 (List.mem_of_getElem? (i := 17) rfl) rfl
theorem kj_J3 : (Cond.initialized RJ3) ∈ TT := tt_1 (List.mem_of_getElem? (i := 18) rfl) rfl
theorem kj_J2 : (Cond.initialized RJ2) ∈ TT := tt_1 (List.mem_of_getElem? (i := 19) rfl) rfl
theorem kj_J11 : (Cond.initialized RJ11) ∈ TT := tt_1 (List.mem_of_getElem? (i := 20) rfl) rfl
theorem kj_J6 : (Cond.initialized RJ6) ∈ TT := tt_1 (List.mem_of_getElem? (i := 21) rfl) rfl
theorem kl_L_7 : (Cond.classLink RL 7 RX11) ∈ TT := tt_1 (List.mem_of_getElem? (i := 22) rfl) rfl
theorem ka_X11 : (Cond.instantiable RX11 12) ∈ TT := tt_1 (List.mem_of_getElem? (i := 23) rfl) rfl
theorem km_L_9 : (Cond.methodLink RL 9 yX11_init) ∈ TT := tt_1 (List.mem_of_getElem? (i := 24) rfl) rfl
theorem ki_X11_init : (Cond.instanceMethod yX11_init) ∈ TT := tt_1 (List.mem_of_getElem? (i := 25) rfl) rfl
theorem kc_X11_init : (Cond.code yX11_init prog_1_method_1_code 2 (Option.none : Option Jvm.ClassFile.FieldType)) ∈ TT := tt_1 (List.mem_of_getElem? (i := 26) rfl) rfl
theorem km_X11_1 : (Cond.methodLink RX11 1 objectInit) ∈ TT := tt_1 (List.mem_of_getElem? (i := 27) rfl) rfl
theorem ki_bjectInit : (Cond.instanceMethod objectInit) ∈ TT := tt_1 (List.mem_of_getElem? (i := 28) rfl) rfl
theorem kl_X11_7 : (Cond.classLink RX11 7 RX3) ∈ TT := tt_1 (List.mem_of_getElem? (i := 30) rfl) rfl
theorem ka_X3 : (Cond.instantiable RX3 3) ∈ TT := tt_1 (List.mem_of_getElem? (i := 31) rfl) rfl
theorem ki_X3_init : (Cond.instanceMethod yX3_init) ∈ TT := tt_1 (List.mem_of_getElem? (i := 33) rfl) rfl
theorem kc_X3_init : (Cond.code yX3_init prog_5_method_1_code 1 (Option.none : Option Jvm.ClassFile.FieldType)) ∈ TT := tt_1 (List.mem_of_getElem? (i := 34) rfl) rfl
theorem km_X3_3 : (Cond.methodLink RX3 3 objectInit) ∈ TT := tt_1 (List.mem_of_getElem? (i := 35) rfl) rfl
theorem kf_X3_9 : (Cond.fieldLink RX3 9 "BowsOwed$People" "age" "[I") ∈ TT := tt_1 (List.mem_of_getElem? (i := 36) rfl) rfl
theorem kf_X3_15 : (Cond.fieldLink RX3 15 "BowsOwed$People" "back" "[I") ∈ TT := tt_1 (List.mem_of_getElem? (i := 37) rfl) rfl
theorem kf_X3_18 : (Cond.fieldLink RX3 18 "BowsOwed$People" "place" "[I") ∈ TT := tt_1 (List.mem_of_getElem? (i := 38) rfl) rfl
theorem kv_X3_age : (Cond.laysFinal "BowsOwed$People" "BowsOwed$People" "age" "[I") ∈ TT := tt_1 (List.mem_of_getElem? (i := 39) rfl) rfl
theorem kv_X3_back : (Cond.laysFinal "BowsOwed$People" "BowsOwed$People" "back" "[I") ∈ TT := tt_1 (List.mem_of_getElem? (i := 41) rfl) rfl
theorem kv_X3_place : (Cond.laysFinal "BowsOwed$People" "BowsOwed$People" "place" "[I") ∈ TT := tt_1 (List.mem_of_getElem? (i := 43) rfl) rfl
theorem kr_1_46 : (Cond.arrayClass Jvm.ClassFile.FieldType.int) ∈ TT := tt_1 (List.mem_of_getElem? (i := 46) rfl) rfl
theorem kl_X11_16 : (Cond.classLink RX11 16 RX10) ∈ TT := tt_1 (List.mem_of_getElem? (i := 47) rfl) rfl
theorem ka_X10 : (Cond.instantiable RX10 7) ∈ TT := tt_1 (List.mem_of_getElem? (i := 48) rfl) rfl
theorem km_X11_18 : (Cond.methodLink RX11 18 yX10_init) ∈ TT := tt_1 (List.mem_of_getElem? (i := 49) rfl) rfl
theorem ki_X10_init : (Cond.instanceMethod yX10_init) ∈ TT := tt_1 (List.mem_of_getElem? (i := 50) rfl) rfl
theorem kc_X10_init : (Cond.code yX10_init prog_12_method_1_code 2 (Option.none : Option Jvm.ClassFile.FieldType)) ∈ TT := tt_1 (List.mem_of_getElem? (i := 51) rfl) rfl
theorem km_X10_3 : (Cond.methodLink RX10 3 objectInit) ∈ TT := tt_1 (List.mem_of_getElem? (i := 52) rfl) rfl
theorem kl_X10_9 : (Cond.classLink RX10 9 RX7) ∈ TT := tt_1 (List.mem_of_getElem? (i := 53) rfl) rfl
theorem ka_X7 : (Cond.instantiable RX7 10) ∈ TT := tt_1 (List.mem_of_getElem? (i := 54) rfl) rfl
theorem ki_X7_init : (Cond.instanceMethod yX7_init) ∈ TT := tt_1 (List.mem_of_getElem? (i := 56) rfl) rfl
theorem kc_X7_init : (Cond.code yX7_init prog_9_method_1_code 1 (Option.none : Option Jvm.ClassFile.FieldType)) ∈ TT := tt_1 (List.mem_of_getElem? (i := 57) rfl) rfl
theorem km_X7_3 : (Cond.methodLink RX7 3 objectInit) ∈ TT := tt_1 (List.mem_of_getElem? (i := 58) rfl) rfl
theorem kf_X7_31 : (Cond.fieldLink RX7 31 "BowsOwed$State" "count" "I") ∈ TT := tt_1 (List.mem_of_getElem? (i := 59) rfl) rfl
theorem kf_X5_18 : (Cond.fieldLink RX5 18 "BowsOwed$State" "count" "I") ∈ TT := tt_1 (List.mem_of_getElem? (i := 60) rfl) rfl
theorem kf_X2_28 : (Cond.fieldLink RX2 28 "BowsOwed$State" "count" "I") ∈ TT := tt_1 (List.mem_of_getElem? (i := 61) rfl) rfl
theorem kf_X11_97 : (Cond.fieldLink RX11 97 "BowsOwed$State" "count" "I") ∈ TT := tt_1 (List.mem_of_getElem? (i := 62) rfl) rfl
theorem kf_X0_41 : (Cond.fieldLink RX0 41 "BowsOwed$State" "count" "I") ∈ TT := tt_1 (List.mem_of_getElem? (i := 63) rfl) rfl
theorem kf_X9_64 : (Cond.fieldLink RX9 64 "BowsOwed$State" "count" "I") ∈ TT := tt_1 (List.mem_of_getElem? (i := 64) rfl) rfl
theorem kf_X10_57 : (Cond.fieldLink RX10 57 "BowsOwed$State" "count" "I") ∈ TT := tt_1 (List.mem_of_getElem? (i := 65) rfl) rfl
theorem kf_X7_34 : (Cond.fieldLink RX7 34 "BowsOwed$State" "day" "I") ∈ TT := tt_1 (List.mem_of_getElem? (i := 66) rfl) rfl
theorem kf_X9_61 : (Cond.fieldLink RX9 61 "BowsOwed$State" "day" "I") ∈ TT := tt_1 (List.mem_of_getElem? (i := 67) rfl) rfl
theorem kf_X1_62 : (Cond.fieldLink RX1 62 "BowsOwed$State" "day" "I") ∈ TT := tt_1 (List.mem_of_getElem? (i := 68) rfl) rfl
theorem kf_X11_173 : (Cond.fieldLink RX11 173 "BowsOwed$State" "day" "I") ∈ TT := tt_1 (List.mem_of_getElem? (i := 69) rfl) rfl
theorem kf_X7_37 : (Cond.fieldLink RX7 37 "BowsOwed$State" "hour" "I") ∈ TT := tt_1 (List.mem_of_getElem? (i := 70) rfl) rfl
theorem kf_X9_57 : (Cond.fieldLink RX9 57 "BowsOwed$State" "hour" "I") ∈ TT := tt_1 (List.mem_of_getElem? (i := 71) rfl) rfl
theorem kf_X1_55 : (Cond.fieldLink RX1 55 "BowsOwed$State" "hour" "I") ∈ TT := tt_1 (List.mem_of_getElem? (i := 72) rfl) rfl
theorem kf_X11_334 : (Cond.fieldLink RX11 334 "BowsOwed$State" "hour" "I") ∈ TT := tt_1 (List.mem_of_getElem? (i := 73) rfl) rfl
theorem kf_X7_9 : (Cond.fieldLink RX7 9 "BowsOwed$State" "x" "I") ∈ TT := tt_1 (List.mem_of_getElem? (i := 74) rfl) rfl
theorem kf_X11_167 : (Cond.fieldLink RX11 167 "BowsOwed$State" "x" "I") ∈ TT := tt_1 (List.mem_of_getElem? (i := 75) rfl) rfl
theorem kf_X7_40 : (Cond.fieldLink RX7 40 "BowsOwed$State" "written" "I") ∈ TT := tt_1 (List.mem_of_getElem? (i := 76) rfl) rfl
theorem kf_X11_274 : (Cond.fieldLink RX11 274 "BowsOwed$State" "written" "I") ∈ TT := tt_1 (List.mem_of_getElem? (i := 77) rfl) rfl
theorem kf_X7_15 : (Cond.fieldLink RX7 15 "BowsOwed$State" "left" "[I") ∈ TT := tt_1 (List.mem_of_getElem? (i := 78) rfl) rfl
theorem kf_X7_19 : (Cond.fieldLink RX7 19 "BowsOwed$State" "place" "[I") ∈ TT := tt_1 (List.mem_of_getElem? (i := 79) rfl) rfl
theorem kf_X7_22 : (Cond.fieldLink RX7 22 "BowsOwed$State" "indoors" "[I") ∈ TT := tt_1 (List.mem_of_getElem? (i := 80) rfl) rfl
theorem kf_X7_25 : (Cond.fieldLink RX7 25 "BowsOwed$State" "owes" "[I") ∈ TT := tt_1 (List.mem_of_getElem? (i := 81) rfl) rfl
theorem kf_X7_28 : (Cond.fieldLink RX7 28 "BowsOwed$State" "book" "[I") ∈ TT := tt_1 (List.mem_of_getElem? (i := 82) rfl) rfl
theorem kv_X7_count : (Cond.lays "BowsOwed$State" "BowsOwed$State" "count" "I") ∈ TT := tt_1 (List.mem_of_getElem? (i := 83) rfl) rfl
theorem kv_X7_day : (Cond.lays "BowsOwed$State" "BowsOwed$State" "day" "I") ∈ TT := tt_1 (List.mem_of_getElem? (i := 85) rfl) rfl
theorem kv_X7_hour : (Cond.lays "BowsOwed$State" "BowsOwed$State" "hour" "I") ∈ TT := tt_1 (List.mem_of_getElem? (i := 87) rfl) rfl
theorem kv_X7_x : (Cond.lays "BowsOwed$State" "BowsOwed$State" "x" "I") ∈ TT := tt_1 (List.mem_of_getElem? (i := 89) rfl) rfl
theorem kv_X7_written : (Cond.lays "BowsOwed$State" "BowsOwed$State" "written" "I") ∈ TT := tt_1 (List.mem_of_getElem? (i := 91) rfl) rfl
theorem kv_X7_left : (Cond.laysFinal "BowsOwed$State" "BowsOwed$State" "left" "[I") ∈ TT := tt_1 (List.mem_of_getElem? (i := 93) rfl) rfl
theorem kv_X7_place : (Cond.laysFinal "BowsOwed$State" "BowsOwed$State" "place" "[I") ∈ TT := tt_1 (List.mem_of_getElem? (i := 95) rfl) rfl
theorem kv_X7_indoors : (Cond.laysFinal "BowsOwed$State" "BowsOwed$State" "indoors" "[I") ∈ TT := tt_1 (List.mem_of_getElem? (i := 97) rfl) rfl
theorem kv_X7_owes : (Cond.laysFinal "BowsOwed$State" "BowsOwed$State" "owes" "[I") ∈ TT := tt_1 (List.mem_of_getElem? (i := 99) rfl) rfl
theorem kv_X7_book : (Cond.laysFinal "BowsOwed$State" "BowsOwed$State" "book" "[I") ∈ TT := tt_1 (List.mem_of_getElem? (i := 101) rfl) rfl
theorem kf_X10_12 : (Cond.fieldLink RX10 12 "BowsOwed$Whole" "state" "LBowsOwed$State;") ∈ TT := tt_1 (List.mem_of_getElem? (i := 105) rfl) rfl
theorem kf_X11_39 : (Cond.fieldLink RX11 39 "BowsOwed$Whole" "state" "LBowsOwed$State;") ∈ TT := tt_1 (List.mem_of_getElem? (i := 106) rfl) rfl
theorem kf_X10_18 : (Cond.fieldLink RX10 18 "BowsOwed$Whole" "necks" "[I") ∈ TT := tt_1 (List.mem_of_getElem? (i := 107) rfl) rfl
theorem kf_X11_314 : (Cond.fieldLink RX11 314 "BowsOwed$Whole" "necks" "[I") ∈ TT := tt_1 (List.mem_of_getElem? (i := 108) rfl) rfl
theorem kf_X10_40 : (Cond.fieldLink RX10 40 "BowsOwed$Whole" "texts" "I") ∈ TT := tt_1 (List.mem_of_getElem? (i := 109) rfl) rfl
theorem kf_X11_183 : (Cond.fieldLink RX11 183 "BowsOwed$Whole" "texts" "I") ∈ TT := tt_1 (List.mem_of_getElem? (i := 110) rfl) rfl
theorem kf_X10_22 : (Cond.fieldLink RX10 22 "BowsOwed$Whole" "ruling" "I") ∈ TT := tt_1 (List.mem_of_getElem? (i := 111) rfl) rfl
theorem kf_X11_209 : (Cond.fieldLink RX11 209 "BowsOwed$Whole" "ruling" "I") ∈ TT := tt_1 (List.mem_of_getElem? (i := 112) rfl) rfl
theorem kf_X10_43 : (Cond.fieldLink RX10 43 "BowsOwed$Whole" "steps" "I") ∈ TT := tt_1 (List.mem_of_getElem? (i := 113) rfl) rfl
theorem kf_X11_238 : (Cond.fieldLink RX11 238 "BowsOwed$Whole" "steps" "I") ∈ TT := tt_1 (List.mem_of_getElem? (i := 114) rfl) rfl
theorem kf_X10_26 : (Cond.fieldLink RX10 26 "BowsOwed$Whole" "before" "[LBowsOwed$State;") ∈ TT := tt_1 (List.mem_of_getElem? (i := 115) rfl) rfl
theorem kf_X10_46 : (Cond.fieldLink RX10 46 "BowsOwed$Whole" "eldest" "I") ∈ TT := tt_1 (List.mem_of_getElem? (i := 116) rfl) rfl
theorem kv_X10_state : (Cond.laysFinal "BowsOwed$Whole" "BowsOwed$Whole" "state" "LBowsOwed$State;") ∈ TT := tt_1 (List.mem_of_getElem? (i := 117) rfl) rfl
theorem kv_X10_necks : (Cond.laysFinal "BowsOwed$Whole" "BowsOwed$Whole" "necks" "[I") ∈ TT := tt_1 (List.mem_of_getElem? (i := 119) rfl) rfl
theorem kv_X10_texts : (Cond.lays "BowsOwed$Whole" "BowsOwed$Whole" "texts" "I") ∈ TT := tt_1 (List.mem_of_getElem? (i := 121) rfl) rfl
theorem kv_X10_ruling : (Cond.lays "BowsOwed$Whole" "BowsOwed$Whole" "ruling" "I") ∈ TT := tt_1 (List.mem_of_getElem? (i := 123) rfl) rfl
theorem kv_X10_steps : (Cond.lays "BowsOwed$Whole" "BowsOwed$Whole" "steps" "I") ∈ TT := tt_1 (List.mem_of_getElem? (i := 125) rfl) rfl
theorem kv_X10_before : (Cond.laysFinal "BowsOwed$Whole" "BowsOwed$Whole" "before" "[LBowsOwed$State;") ∈ TT := tt_1 (List.mem_of_getElem? (i := 127) rfl) rfl
theorem kv_X10_eldest : (Cond.lays "BowsOwed$Whole" "BowsOwed$Whole" "eldest" "I") ∈ TT := tt_1 (List.mem_of_getElem? (i := 129) rfl) rfl
theorem kl_X11_26 : (Cond.classLink RX11 26 RX6) ∈ TT := tt_1 (List.mem_of_getElem? (i := 132) rfl) rfl
theorem ka_X6 : (Cond.instantiable RX6 7) ∈ TT := tt_1 (List.mem_of_getElem? (i := 133) rfl) rfl
theorem ki_X6_init : (Cond.instanceMethod yX6_init) ∈ TT := tt_1 (List.mem_of_getElem? (i := 135) rfl) rfl
theorem kc_X6_init : (Cond.code yX6_init prog_8_method_1_code 1 (Option.none : Option Jvm.ClassFile.FieldType)) ∈ TT := tt_1 (List.mem_of_getElem? (i := 136) rfl) rfl
theorem km_X6_3 : (Cond.methodLink RX6 3 objectInit) ∈ TT := tt_1 (List.mem_of_getElem? (i := 137) rfl) rfl
theorem kf_X6_9 : (Cond.fieldLink RX6 9 "BowsOwed$Script" "code" "[I") ∈ TT := tt_1 (List.mem_of_getElem? (i := 138) rfl) rfl
theorem kf_X6_15 : (Cond.fieldLink RX6 15 "BowsOwed$Script" "starts" "[I") ∈ TT := tt_1 (List.mem_of_getElem? (i := 139) rfl) rfl
theorem kf_X6_18 : (Cond.fieldLink RX6 18 "BowsOwed$Script" "stops" "[I") ∈ TT := tt_1 (List.mem_of_getElem? (i := 140) rfl) rfl
theorem kf_X6_21 : (Cond.fieldLink RX6 21 "BowsOwed$Script" "deeds" "[I") ∈ TT := tt_1 (List.mem_of_getElem? (i := 141) rfl) rfl
theorem kf_X6_24 : (Cond.fieldLink RX6 24 "BowsOwed$Script" "numbers" "[I") ∈ TT := tt_1 (List.mem_of_getElem? (i := 142) rfl) rfl
theorem kf_X6_27 : (Cond.fieldLink RX6 27 "BowsOwed$Script" "length" "I") ∈ TT := tt_1 (List.mem_of_getElem? (i := 143) rfl) rfl
theorem kf_X6_31 : (Cond.fieldLink RX6 31 "BowsOwed$Script" "clauses" "I") ∈ TT := tt_1 (List.mem_of_getElem? (i := 144) rfl) rfl
theorem kf_X4_67 : (Cond.fieldLink RX4 67 "BowsOwed$Script" "clauses" "I") ∈ TT := tt_1 (List.mem_of_getElem? (i := 145) rfl) rfl
theorem kf_X11_221 : (Cond.fieldLink RX11 221 "BowsOwed$Script" "clauses" "I") ∈ TT := tt_1 (List.mem_of_getElem? (i := 146) rfl) rfl
theorem kv_X6_code : (Cond.laysFinal "BowsOwed$Script" "BowsOwed$Script" "code" "[I") ∈ TT := tt_1 (List.mem_of_getElem? (i := 147) rfl) rfl
theorem kv_X6_starts : (Cond.laysFinal "BowsOwed$Script" "BowsOwed$Script" "starts" "[I") ∈ TT := tt_1 (List.mem_of_getElem? (i := 149) rfl) rfl
theorem kv_X6_stops : (Cond.laysFinal "BowsOwed$Script" "BowsOwed$Script" "stops" "[I") ∈ TT := tt_1 (List.mem_of_getElem? (i := 151) rfl) rfl
theorem kv_X6_deeds : (Cond.laysFinal "BowsOwed$Script" "BowsOwed$Script" "deeds" "[I") ∈ TT := tt_1 (List.mem_of_getElem? (i := 153) rfl) rfl
theorem kv_X6_numbers : (Cond.laysFinal "BowsOwed$Script" "BowsOwed$Script" "numbers" "[I") ∈ TT := tt_1 (List.mem_of_getElem? (i := 155) rfl) rfl
theorem kv_X6_length : (Cond.lays "BowsOwed$Script" "BowsOwed$Script" "length" "I") ∈ TT := tt_1 (List.mem_of_getElem? (i := 157) rfl) rfl
theorem kv_X6_clauses : (Cond.lays "BowsOwed$Script" "BowsOwed$Script" "clauses" "I") ∈ TT := tt_1 (List.mem_of_getElem? (i := 159) rfl) rfl
theorem kl_X11_37 : (Cond.classLink RX11 37 RX9) ∈ TT := tt_1 (List.mem_of_getElem? (i := 163) rfl) rfl
theorem ka_X9 : (Cond.instantiable RX9 3) ∈ TT := tt_1 (List.mem_of_getElem? (i := 164) rfl) rfl
theorem km_X11_43 : (Cond.methodLink RX11 43 yX9_init) ∈ TT := tt_1 (List.mem_of_getElem? (i := 165) rfl) rfl
theorem ki_X9_init : (Cond.instanceMethod yX9_init) ∈ TT := tt_1 (List.mem_of_getElem? (i := 166) rfl) rfl
theorem kc_X9_init : (Cond.code yX9_init prog_11_method_1_code 4 (Option.none : Option Jvm.ClassFile.FieldType)) ∈ TT := tt_1 (List.mem_of_getElem? (i := 167) rfl) rfl
theorem km_X9_3 : (Cond.methodLink RX9 3 objectInit) ∈ TT := tt_1 (List.mem_of_getElem? (i := 168) rfl) rfl
theorem kl_X9_19 : (Cond.classLink RX9 19 RX1) ∈ TT := tt_1 (List.mem_of_getElem? (i := 169) rfl) rfl
theorem ka_X1 : (Cond.instantiable RX1 6) ∈ TT := tt_1 (List.mem_of_getElem? (i := 170) rfl) rfl
theorem km_X9_21 : (Cond.methodLink RX9 21 yX1_init) ∈ TT := tt_1 (List.mem_of_getElem? (i := 171) rfl) rfl
theorem ki_X1_init : (Cond.instanceMethod yX1_init) ∈ TT := tt_1 (List.mem_of_getElem? (i := 172) rfl) rfl
theorem kc_X1_init : (Cond.code yX1_init prog_3_method_1_code 4 (Option.none : Option Jvm.ClassFile.FieldType)) ∈ TT := tt_1 (List.mem_of_getElem? (i := 173) rfl) rfl
theorem km_X1_3 : (Cond.methodLink RX1 3 objectInit) ∈ TT := tt_1 (List.mem_of_getElem? (i := 174) rfl) rfl
theorem kf_X1_18 : (Cond.fieldLink RX1 18 "BowsOwed$Laws" "people" "LBowsOwed$People;") ∈ TT := tt_1 (List.mem_of_getElem? (i := 175) rfl) rfl
theorem kf_X1_22 : (Cond.fieldLink RX1 22 "BowsOwed$Laws" "state" "LBowsOwed$State;") ∈ TT := tt_1 (List.mem_of_getElem? (i := 176) rfl) rfl
theorem kf_X1_9 : (Cond.fieldLink RX1 9 "BowsOwed$Laws" "names" "[I") ∈ TT := tt_1 (List.mem_of_getElem? (i := 177) rfl) rfl
theorem kf_X1_15 : (Cond.fieldLink RX1 15 "BowsOwed$Laws" "stack" "[I") ∈ TT := tt_1 (List.mem_of_getElem? (i := 178) rfl) rfl
theorem kf_X1_70 : (Cond.fieldLink RX1 70 "BowsOwed$Laws" "top" "I") ∈ TT := tt_1 (List.mem_of_getElem? (i := 179) rfl) rfl
theorem kf_X1_26 : (Cond.fieldLink RX1 26 "BowsOwed$Laws" "script" "LBowsOwed$Script;") ∈ TT := tt_1 (List.mem_of_getElem? (i := 180) rfl) rfl
theorem kv_X1_people : (Cond.laysFinal "BowsOwed$Laws" "BowsOwed$Laws" "people" "LBowsOwed$People;") ∈ TT := tt_1 (List.mem_of_getElem? (i := 181) rfl) rfl
theorem kv_X1_state : (Cond.laysFinal "BowsOwed$Laws" "BowsOwed$Laws" "state" "LBowsOwed$State;") ∈ TT := tt_1 (List.mem_of_getElem? (i := 183) rfl) rfl
theorem kv_X1_names : (Cond.laysFinal "BowsOwed$Laws" "BowsOwed$Laws" "names" "[I") ∈ TT := tt_1 (List.mem_of_getElem? (i := 185) rfl) rfl
theorem kv_X1_stack : (Cond.laysFinal "BowsOwed$Laws" "BowsOwed$Laws" "stack" "[I") ∈ TT := tt_1 (List.mem_of_getElem? (i := 187) rfl) rfl
theorem kv_X1_top : (Cond.lays "BowsOwed$Laws" "BowsOwed$Laws" "top" "I") ∈ TT := tt_1 (List.mem_of_getElem? (i := 189) rfl) rfl
theorem kv_X1_script : (Cond.lays "BowsOwed$Laws" "BowsOwed$Laws" "script" "LBowsOwed$Script;") ∈ TT := tt_1 (List.mem_of_getElem? (i := 191) rfl) rfl
theorem kf_X9_15 : (Cond.fieldLink RX9 15 "BowsOwed$Town" "state" "LBowsOwed$State;") ∈ TT := tt_1 (List.mem_of_getElem? (i := 194) rfl) rfl
theorem kf_X11_283 : (Cond.fieldLink RX11 283 "BowsOwed$Town" "state" "LBowsOwed$State;") ∈ TT := tt_1 (List.mem_of_getElem? (i := 195) rfl) rfl
theorem kf_X9_24 : (Cond.fieldLink RX9 24 "BowsOwed$Town" "laws" "LBowsOwed$Laws;") ∈ TT := tt_1 (List.mem_of_getElem? (i := 196) rfl) rfl
theorem kf_X11_212 : (Cond.fieldLink RX11 212 "BowsOwed$Town" "laws" "LBowsOwed$Laws;") ∈ TT := tt_1 (List.mem_of_getElem? (i := 197) rfl) rfl
theorem kf_X9_9 : (Cond.fieldLink RX9 9 "BowsOwed$Town" "people" "LBowsOwed$People;") ∈ TT := tt_1 (List.mem_of_getElem? (i := 198) rfl) rfl
theorem kv_X9_state : (Cond.laysFinal "BowsOwed$Town" "BowsOwed$Town" "state" "LBowsOwed$State;") ∈ TT := tt_1 (List.mem_of_getElem? (i := 199) rfl) rfl
theorem kv_X9_laws : (Cond.laysFinal "BowsOwed$Town" "BowsOwed$Town" "laws" "LBowsOwed$Laws;") ∈ TT := tt_1 (List.mem_of_getElem? (i := 201) rfl) rfl
theorem kv_X9_people : (Cond.laysFinal "BowsOwed$Town" "BowsOwed$Town" "people" "LBowsOwed$People;") ∈ TT := tt_1 (List.mem_of_getElem? (i := 203) rfl) rfl
theorem kl_X11_50 : (Cond.classLink RX11 50 RX7) ∈ TT := tt_1 (List.mem_of_getElem? (i := 206) rfl) rfl
theorem kl_X11_56 : (Cond.classLink RX11 56 RX8) ∈ TT := tt_1 (List.mem_of_getElem? (i := 208) rfl) rfl
theorem ka_X8 : (Cond.instantiable RX8 6) ∈ TT := tt_1 (List.mem_of_getElem? (i := 209) rfl) rfl
theorem ki_X8_init : (Cond.instanceMethod yX8_init) ∈ TT := tt_1 (List.mem_of_getElem? (i := 211) rfl) rfl
theorem kc_X8_init : (Cond.code yX8_init prog_10_method_1_code 1 (Option.none : Option Jvm.ClassFile.FieldType)) ∈ TT := tt_1 (List.mem_of_getElem? (i := 212) rfl) rfl
theorem km_X8_3 : (Cond.methodLink RX8 3 objectInit) ∈ TT := tt_1 (List.mem_of_getElem? (i := 213) rfl) rfl
theorem kf_X8_9 : (Cond.fieldLink RX8 9 "BowsOwed$Tape" "bytes" "[I") ∈ TT := tt_1 (List.mem_of_getElem? (i := 214) rfl) rfl
theorem kf_X8_15 : (Cond.fieldLink RX8 15 "BowsOwed$Tape" "length" "I") ∈ TT := tt_1 (List.mem_of_getElem? (i := 215) rfl) rfl
theorem kf_X11_176 : (Cond.fieldLink RX11 176 "BowsOwed$Tape" "length" "I") ∈ TT := tt_1 (List.mem_of_getElem? (i := 216) rfl) rfl
theorem kf_X4_44 : (Cond.fieldLink RX4 44 "BowsOwed$Tape" "token" "I") ∈ TT := tt_1 (List.mem_of_getElem? (i := 217) rfl) rfl
theorem kf_X8_39 : (Cond.fieldLink RX8 39 "BowsOwed$Tape" "token" "I") ∈ TT := tt_1 (List.mem_of_getElem? (i := 218) rfl) rfl
theorem kf_X8_36 : (Cond.fieldLink RX8 36 "BowsOwed$Tape" "value" "I") ∈ TT := tt_1 (List.mem_of_getElem? (i := 219) rfl) rfl
theorem kf_X4_92 : (Cond.fieldLink RX4 92 "BowsOwed$Tape" "value" "I") ∈ TT := tt_1 (List.mem_of_getElem? (i := 220) rfl) rfl
theorem kf_X4_47 : (Cond.fieldLink RX4 47 "BowsOwed$Tape" "start" "I") ∈ TT := tt_1 (List.mem_of_getElem? (i := 221) rfl) rfl
theorem kf_X8_33 : (Cond.fieldLink RX8 33 "BowsOwed$Tape" "start" "I") ∈ TT := tt_1 (List.mem_of_getElem? (i := 222) rfl) rfl
theorem kf_X8_23 : (Cond.fieldLink RX8 23 "BowsOwed$Tape" "at" "I") ∈ TT := tt_1 (List.mem_of_getElem? (i := 223) rfl) rfl
theorem kv_X8_bytes : (Cond.laysFinal "BowsOwed$Tape" "BowsOwed$Tape" "bytes" "[I") ∈ TT := tt_1 (List.mem_of_getElem? (i := 224) rfl) rfl
theorem kv_X8_length : (Cond.lays "BowsOwed$Tape" "BowsOwed$Tape" "length" "I") ∈ TT := tt_1 (List.mem_of_getElem? (i := 226) rfl) rfl
theorem kv_X8_token : (Cond.lays "BowsOwed$Tape" "BowsOwed$Tape" "token" "I") ∈ TT := tt_1 (List.mem_of_getElem? (i := 228) rfl) rfl
theorem kv_X8_value : (Cond.lays "BowsOwed$Tape" "BowsOwed$Tape" "value" "I") ∈ TT := tt_1 (List.mem_of_getElem? (i := 230) rfl) rfl
theorem kv_X8_start : (Cond.lays "BowsOwed$Tape" "BowsOwed$Tape" "start" "I") ∈ TT := tt_1 (List.mem_of_getElem? (i := 232) rfl) rfl
theorem kv_X8_at : (Cond.lays "BowsOwed$Tape" "BowsOwed$Tape" "at" "I") ∈ TT := tt_1 (List.mem_of_getElem? (i := 234) rfl) rfl
theorem kl_X11_63 : (Cond.classLink RX11 63 RX4) ∈ TT := tt_1 (List.mem_of_getElem? (i := 237) rfl) rfl
theorem ka_X4 : (Cond.instantiable RX4 5) ∈ TT := tt_1 (List.mem_of_getElem? (i := 238) rfl) rfl
theorem km_X11_65 : (Cond.methodLink RX11 65 yX4_init) ∈ TT := tt_1 (List.mem_of_getElem? (i := 239) rfl) rfl
theorem ki_X4_init : (Cond.instanceMethod yX4_init) ∈ TT := tt_2 (List.mem_of_getElem? (i := 0) rfl) rfl
theorem kc_X4_init : (Cond.code yX4_init prog_6_method_1_code 2 (Option.none : Option Jvm.ClassFile.FieldType)) ∈ TT := tt_2 (List.mem_of_getElem? (i := 1) rfl) rfl
theorem km_X4_3 : (Cond.methodLink RX4 3 objectInit) ∈ TT := tt_2 (List.mem_of_getElem? (i := 2) rfl) rfl
theorem kl_X4_9 : (Cond.classLink RX4 9 RX6) ∈ TT := tt_2 (List.mem_of_getElem? (i := 3) rfl) rfl
theorem kf_X4_12 : (Cond.fieldLink RX4 12 "BowsOwed$Reader" "draft" "LBowsOwed$Script;") ∈ TT := tt_2 (List.mem_of_getElem? (i := 5) rfl) rfl
theorem kf_X11_193 : (Cond.fieldLink RX11 193 "BowsOwed$Reader" "draft" "LBowsOwed$Script;") ∈ TT := tt_2 (List.mem_of_getElem? (i := 6) rfl) rfl
theorem kf_X4_18 : (Cond.fieldLink RX4 18 "BowsOwed$Reader" "fault" "I") ∈ TT := tt_2 (List.mem_of_getElem? (i := 7) rfl) rfl
theorem kf_X11_200 : (Cond.fieldLink RX11 200 "BowsOwed$Reader" "fault" "I") ∈ TT := tt_2 (List.mem_of_getElem? (i := 8) rfl) rfl
theorem kf_X4_22 : (Cond.fieldLink RX4 22 "BowsOwed$Reader" "faultAt" "I") ∈ TT := tt_2 (List.mem_of_getElem? (i := 9) rfl) rfl
theorem kf_X11_203 : (Cond.fieldLink RX11 203 "BowsOwed$Reader" "faultAt" "I") ∈ TT := tt_2 (List.mem_of_getElem? (i := 10) rfl) rfl
theorem kf_X4_25 : (Cond.fieldLink RX4 25 "BowsOwed$Reader" "tape" "LBowsOwed$Tape;") ∈ TT := tt_2 (List.mem_of_getElem? (i := 11) rfl) rfl
theorem kf_X4_73 : (Cond.fieldLink RX4 73 "BowsOwed$Reader" "law" "I") ∈ TT := tt_2 (List.mem_of_getElem? (i := 12) rfl) rfl
theorem kv_X4_draft : (Cond.laysFinal "BowsOwed$Reader" "BowsOwed$Reader" "draft" "LBowsOwed$Script;") ∈ TT := tt_2 (List.mem_of_getElem? (i := 13) rfl) rfl
theorem kv_X4_fault : (Cond.lays "BowsOwed$Reader" "BowsOwed$Reader" "fault" "I") ∈ TT := tt_2 (List.mem_of_getElem? (i := 15) rfl) rfl
theorem kv_X4_faultAt : (Cond.lays "BowsOwed$Reader" "BowsOwed$Reader" "faultAt" "I") ∈ TT := tt_2 (List.mem_of_getElem? (i := 17) rfl) rfl
theorem kv_X4_tape : (Cond.laysFinal "BowsOwed$Reader" "BowsOwed$Reader" "tape" "LBowsOwed$Tape;") ∈ TT := tt_2 (List.mem_of_getElem? (i := 19) rfl) rfl
theorem kv_X4_law : (Cond.lays "BowsOwed$Reader" "BowsOwed$Reader" "law" "I") ∈ TT := tt_2 (List.mem_of_getElem? (i := 21) rfl) rfl
theorem kl_X11_72 : (Cond.classLink RX11 72 RX0) ∈ TT := tt_2 (List.mem_of_getElem? (i := 24) rfl) rfl
theorem ka_X0 : (Cond.instantiable RX0 6) ∈ TT := tt_2 (List.mem_of_getElem? (i := 25) rfl) rfl
theorem ki_X0_init : (Cond.instanceMethod yX0_init) ∈ TT := tt_2 (List.mem_of_getElem? (i := 27) rfl) rfl
theorem kc_X0_init : (Cond.code yX0_init prog_2_method_1_code 1 (Option.none : Option Jvm.ClassFile.FieldType)) ∈ TT := tt_2 (List.mem_of_getElem? (i := 28) rfl) rfl
theorem km_X0_3 : (Cond.methodLink RX0 3 objectInit) ∈ TT := tt_2 (List.mem_of_getElem? (i := 29) rfl) rfl
theorem kf_X0_52 : (Cond.fieldLink RX0 52 "BowsOwed$Errand" "steps" "I") ∈ TT := tt_2 (List.mem_of_getElem? (i := 30) rfl) rfl
theorem kf_X11_289 : (Cond.fieldLink RX11 289 "BowsOwed$Errand" "steps" "I") ∈ TT := tt_2 (List.mem_of_getElem? (i := 31) rfl) rfl
theorem kf_X0_23 : (Cond.fieldLink RX0 23 "BowsOwed$Errand" "way" "I") ∈ TT := tt_2 (List.mem_of_getElem? (i := 32) rfl) rfl
theorem kf_X0_19 : (Cond.fieldLink RX0 19 "BowsOwed$Errand" "turn" "I") ∈ TT := tt_2 (List.mem_of_getElem? (i := 33) rfl) rfl
theorem kf_X0_32 : (Cond.fieldLink RX0 32 "BowsOwed$Errand" "from" "I") ∈ TT := tt_2 (List.mem_of_getElem? (i := 34) rfl) rfl
theorem kf_X0_35 : (Cond.fieldLink RX0 35 "BowsOwed$Errand" "wanted" "I") ∈ TT := tt_2 (List.mem_of_getElem? (i := 35) rfl) rfl
theorem kf_X0_38 : (Cond.fieldLink RX0 38 "BowsOwed$Errand" "shunned" "I") ∈ TT := tt_2 (List.mem_of_getElem? (i := 36) rfl) rfl
theorem kv_X0_steps : (Cond.lays "BowsOwed$Errand" "BowsOwed$Errand" "steps" "I") ∈ TT := tt_2 (List.mem_of_getElem? (i := 37) rfl) rfl
theorem kv_X0_way : (Cond.lays "BowsOwed$Errand" "BowsOwed$Errand" "way" "I") ∈ TT := tt_2 (List.mem_of_getElem? (i := 39) rfl) rfl
theorem kv_X0_turn : (Cond.lays "BowsOwed$Errand" "BowsOwed$Errand" "turn" "I") ∈ TT := tt_2 (List.mem_of_getElem? (i := 41) rfl) rfl
theorem kv_X0_from : (Cond.lays "BowsOwed$Errand" "BowsOwed$Errand" "from" "I") ∈ TT := tt_2 (List.mem_of_getElem? (i := 43) rfl) rfl
theorem kv_X0_wanted : (Cond.lays "BowsOwed$Errand" "BowsOwed$Errand" "wanted" "I") ∈ TT := tt_2 (List.mem_of_getElem? (i := 45) rfl) rfl
theorem kv_X0_shunned : (Cond.lays "BowsOwed$Errand" "BowsOwed$Errand" "shunned" "I") ∈ TT := tt_2 (List.mem_of_getElem? (i := 47) rfl) rfl
theorem kl_X11_79 : (Cond.classLink RX11 79 RX5) ∈ TT := tt_2 (List.mem_of_getElem? (i := 50) rfl) rfl
theorem ka_X5 : (Cond.instantiable RX5 2) ∈ TT := tt_2 (List.mem_of_getElem? (i := 51) rfl) rfl
theorem ki_X5_init : (Cond.instanceMethod yX5_init) ∈ TT := tt_2 (List.mem_of_getElem? (i := 53) rfl) rfl
theorem kc_X5_init : (Cond.code yX5_init prog_7_method_1_code 1 (Option.none : Option Jvm.ClassFile.FieldType)) ∈ TT := tt_2 (List.mem_of_getElem? (i := 54) rfl) rfl
theorem km_X5_3 : (Cond.methodLink RX5 3 objectInit) ∈ TT := tt_2 (List.mem_of_getElem? (i := 55) rfl) rfl
theorem kf_X5_11 : (Cond.fieldLink RX5 11 "BowsOwed$Reckoning" "have" "[I") ∈ TT := tt_2 (List.mem_of_getElem? (i := 56) rfl) rfl
theorem kf_X5_15 : (Cond.fieldLink RX5 15 "BowsOwed$Reckoning" "best" "[I") ∈ TT := tt_2 (List.mem_of_getElem? (i := 57) rfl) rfl
theorem kv_X5_have : (Cond.laysFinal "BowsOwed$Reckoning" "BowsOwed$Reckoning" "have" "[I") ∈ TT := tt_2 (List.mem_of_getElem? (i := 58) rfl) rfl
theorem kv_X5_best : (Cond.laysFinal "BowsOwed$Reckoning" "BowsOwed$Reckoning" "best" "[I") ∈ TT := tt_2 (List.mem_of_getElem? (i := 60) rfl) rfl
theorem kl_X11_86 : (Cond.classLink RX11 86 RX2) ∈ TT := tt_2 (List.mem_of_getElem? (i := 63) rfl) rfl
theorem ka_X2 : (Cond.instantiable RX2 6) ∈ TT := tt_2 (List.mem_of_getElem? (i := 64) rfl) rfl
theorem ki_X2_init : (Cond.instanceMethod yX2_init) ∈ TT := tt_2 (List.mem_of_getElem? (i := 66) rfl) rfl
theorem kc_X2_init : (Cond.code yX2_init prog_4_method_1_code 1 (Option.none : Option Jvm.ClassFile.FieldType)) ∈ TT := tt_2 (List.mem_of_getElem? (i := 67) rfl) rfl
theorem km_X2_3 : (Cond.methodLink RX2 3 objectInit) ∈ TT := tt_2 (List.mem_of_getElem? (i := 68) rfl) rfl
theorem kf_X2_24 : (Cond.fieldLink RX2 24 "BowsOwed$Meetings" "sets" "I") ∈ TT := tt_2 (List.mem_of_getElem? (i := 69) rfl) rfl
theorem kf_X11_322 : (Cond.fieldLink RX11 322 "BowsOwed$Meetings" "sets" "I") ∈ TT := tt_2 (List.mem_of_getElem? (i := 70) rfl) rfl
theorem kf_X2_43 : (Cond.fieldLink RX2 43 "BowsOwed$Meetings" "twos" "I") ∈ TT := tt_2 (List.mem_of_getElem? (i := 71) rfl) rfl
theorem kf_X2_11 : (Cond.fieldLink RX2 11 "BowsOwed$Meetings" "lower" "[I") ∈ TT := tt_2 (List.mem_of_getElem? (i := 72) rfl) rfl
theorem kf_X2_15 : (Cond.fieldLink RX2 15 "BowsOwed$Meetings" "higher" "[I") ∈ TT := tt_2 (List.mem_of_getElem? (i := 73) rfl) rfl
theorem kf_X2_18 : (Cond.fieldLink RX2 18 "BowsOwed$Meetings" "met" "[I") ∈ TT := tt_2 (List.mem_of_getElem? (i := 74) rfl) rfl
theorem kf_X2_21 : (Cond.fieldLink RX2 21 "BowsOwed$Meetings" "bent" "[I") ∈ TT := tt_2 (List.mem_of_getElem? (i := 75) rfl) rfl
theorem kv_X2_sets : (Cond.lays "BowsOwed$Meetings" "BowsOwed$Meetings" "sets" "I") ∈ TT := tt_2 (List.mem_of_getElem? (i := 76) rfl) rfl
theorem kv_X2_twos : (Cond.lays "BowsOwed$Meetings" "BowsOwed$Meetings" "twos" "I") ∈ TT := tt_2 (List.mem_of_getElem? (i := 78) rfl) rfl
theorem kv_X2_lower : (Cond.laysFinal "BowsOwed$Meetings" "BowsOwed$Meetings" "lower" "[I") ∈ TT := tt_2 (List.mem_of_getElem? (i := 80) rfl) rfl
theorem kv_X2_higher : (Cond.laysFinal "BowsOwed$Meetings" "BowsOwed$Meetings" "higher" "[I") ∈ TT := tt_2 (List.mem_of_getElem? (i := 82) rfl) rfl
theorem kv_X2_met : (Cond.laysFinal "BowsOwed$Meetings" "BowsOwed$Meetings" "met" "[I") ∈ TT := tt_2 (List.mem_of_getElem? (i := 84) rfl) rfl
theorem kv_X2_bent : (Cond.laysFinal "BowsOwed$Meetings" "BowsOwed$Meetings" "bent" "[I") ∈ TT := tt_2 (List.mem_of_getElem? (i := 86) rfl) rfl
theorem kf_X11_10 : (Cond.fieldLink RX11 10 "BowsOwed" "people" "LBowsOwed$People;") ∈ TT := tt_2 (List.mem_of_getElem? (i := 89) rfl) rfl
theorem kf_X11_19 : (Cond.fieldLink RX11 19 "BowsOwed" "now" "LBowsOwed$Whole;") ∈ TT := tt_2 (List.mem_of_getElem? (i := 90) rfl) rfl
theorem kf_X11_23 : (Cond.fieldLink RX11 23 "BowsOwed" "kept" "LBowsOwed$Whole;") ∈ TT := tt_2 (List.mem_of_getElem? (i := 91) rfl) rfl
theorem kf_X11_29 : (Cond.fieldLink RX11 29 "BowsOwed" "lawless" "LBowsOwed$Script;") ∈ TT := tt_2 (List.mem_of_getElem? (i := 92) rfl) rfl
theorem kf_X11_33 : (Cond.fieldLink RX11 33 "BowsOwed" "texts" "[LBowsOwed$Script;") ∈ TT := tt_2 (List.mem_of_getElem? (i := 93) rfl) rfl
theorem kf_X11_46 : (Cond.fieldLink RX11 46 "BowsOwed" "town" "LBowsOwed$Town;") ∈ TT := tt_2 (List.mem_of_getElem? (i := 94) rfl) rfl
theorem kf_X11_53 : (Cond.fieldLink RX11 53 "BowsOwed" "foreseen" "LBowsOwed$Town;") ∈ TT := tt_2 (List.mem_of_getElem? (i := 95) rfl) rfl
theorem kf_X11_59 : (Cond.fieldLink RX11 59 "BowsOwed" "tape" "LBowsOwed$Tape;") ∈ TT := tt_2 (List.mem_of_getElem? (i := 96) rfl) rfl
theorem kf_X11_68 : (Cond.fieldLink RX11 68 "BowsOwed" "reader" "LBowsOwed$Reader;") ∈ TT := tt_2 (List.mem_of_getElem? (i := 97) rfl) rfl
theorem kf_X11_75 : (Cond.fieldLink RX11 75 "BowsOwed" "errand" "LBowsOwed$Errand;") ∈ TT := tt_2 (List.mem_of_getElem? (i := 98) rfl) rfl
theorem kf_X11_82 : (Cond.fieldLink RX11 82 "BowsOwed" "reckoning" "LBowsOwed$Reckoning;") ∈ TT := tt_2 (List.mem_of_getElem? (i := 99) rfl) rfl
theorem kf_X11_89 : (Cond.fieldLink RX11 89 "BowsOwed" "meetings" "LBowsOwed$Meetings;") ∈ TT := tt_2 (List.mem_of_getElem? (i := 100) rfl) rfl
theorem kv_X11_people : (Cond.laysFinal "BowsOwed" "BowsOwed" "people" "LBowsOwed$People;") ∈ TT := tt_2 (List.mem_of_getElem? (i := 101) rfl) rfl
theorem kv_X11_now : (Cond.laysFinal "BowsOwed" "BowsOwed" "now" "LBowsOwed$Whole;") ∈ TT := tt_2 (List.mem_of_getElem? (i := 103) rfl) rfl
theorem kv_X11_kept : (Cond.laysFinal "BowsOwed" "BowsOwed" "kept" "LBowsOwed$Whole;") ∈ TT := tt_2 (List.mem_of_getElem? (i := 105) rfl) rfl
theorem kv_X11_lawless : (Cond.laysFinal "BowsOwed" "BowsOwed" "lawless" "LBowsOwed$Script;") ∈ TT := tt_2 (List.mem_of_getElem? (i := 107) rfl) rfl
theorem kv_X11_texts : (Cond.laysFinal "BowsOwed" "BowsOwed" "texts" "[LBowsOwed$Script;") ∈ TT := tt_2 (List.mem_of_getElem? (i := 109) rfl) rfl
theorem kv_X11_town : (Cond.laysFinal "BowsOwed" "BowsOwed" "town" "LBowsOwed$Town;") ∈ TT := tt_2 (List.mem_of_getElem? (i := 111) rfl) rfl
theorem kv_X11_foreseen : (Cond.laysFinal "BowsOwed" "BowsOwed" "foreseen" "LBowsOwed$Town;") ∈ TT := tt_2 (List.mem_of_getElem? (i := 113) rfl) rfl
theorem kv_X11_tape : (Cond.laysFinal "BowsOwed" "BowsOwed" "tape" "LBowsOwed$Tape;") ∈ TT := tt_2 (List.mem_of_getElem? (i := 115) rfl) rfl
theorem kv_X11_reader : (Cond.laysFinal "BowsOwed" "BowsOwed" "reader" "LBowsOwed$Reader;") ∈ TT := tt_2 (List.mem_of_getElem? (i := 117) rfl) rfl
theorem kv_X11_errand : (Cond.laysFinal "BowsOwed" "BowsOwed" "errand" "LBowsOwed$Errand;") ∈ TT := tt_2 (List.mem_of_getElem? (i := 119) rfl) rfl
theorem kv_X11_reckoning : (Cond.laysFinal "BowsOwed" "BowsOwed" "reckoning" "LBowsOwed$Reckoning;") ∈ TT := tt_2 (List.mem_of_getElem? (i := 121) rfl) rfl
theorem kv_X11_meetings : (Cond.laysFinal "BowsOwed" "BowsOwed" "meetings" "LBowsOwed$Meetings;") ∈ TT := tt_2 (List.mem_of_getElem? (i := 123) rfl) rfl
theorem km_L_13 : (Cond.methodLink RL 13 yX11_person) ∈ TT := tt_2 (List.mem_of_getElem? (i := 126) rfl) rfl
theorem ki_X11_person : (Cond.instanceMethod yX11_person) ∈ TT := tt_2 (List.mem_of_getElem? (i := 127) rfl) rfl
theorem ks_X11_person : (Cond.selects RX11 yX11_person yX11_person) ∈ TT := tt_2 (List.mem_of_getElem? (i := 128) rfl) rfl
theorem kc_X11_person : (Cond.code yX11_person prog_1_method_2_code 6 (Option.some Jvm.ClassFile.FieldType.int)) ∈ TT := tt_2 (List.mem_of_getElem? (i := 129) rfl) rfl
theorem km_X11_93 : (Cond.methodLink RX11 93 yX11_within) ∈ TT := tt_2 (List.mem_of_getElem? (i := 130) rfl) rfl
theorem kt_X11_within : (Cond.static yX11_within) ∈ TT := tt_2 (List.mem_of_getElem? (i := 131) rfl) rfl
theorem kc_X11_within : (Cond.code yX11_within prog_1_method_36_code 3 (Option.some Jvm.ClassFile.FieldType.boolean)) ∈ TT := tt_2 (List.mem_of_getElem? (i := 132) rfl) rfl
theorem km_X11_101 : (Cond.methodLink RX11 101 yX3_tell) ∈ TT := tt_2 (List.mem_of_getElem? (i := 133) rfl) rfl
theorem ki_X3_tell : (Cond.instanceMethod yX3_tell) ∈ TT := tt_2 (List.mem_of_getElem? (i := 134) rfl) rfl
theorem ks_X3_tell : (Cond.selects RX3 yX3_tell yX3_tell) ∈ TT := tt_2 (List.mem_of_getElem? (i := 135) rfl) rfl
theorem kc_X3_tell : (Cond.code yX3_tell prog_5_method_2_code 5 (Option.none : Option Jvm.ClassFile.FieldType)) ∈ TT := tt_2 (List.mem_of_getElem? (i := 136) rfl) rfl
theorem km_X11_105 : (Cond.methodLink RX11 105 yX7_enter) ∈ TT := tt_2 (List.mem_of_getElem? (i := 138) rfl) rfl
theorem ki_X7_enter : (Cond.instanceMethod yX7_enter) ∈ TT := tt_2 (List.mem_of_getElem? (i := 139) rfl) rfl
theorem ks_X7_enter : (Cond.selects RX7 yX7_enter yX7_enter) ∈ TT := tt_2 (List.mem_of_getElem? (i := 140) rfl) rfl
theorem kc_X7_enter : (Cond.code yX7_enter prog_9_method_14_code 3 (Option.none : Option Jvm.ClassFile.FieldType)) ∈ TT := tt_2 (List.mem_of_getElem? (i := 141) rfl) rfl
theorem km_X7_72 : (Cond.methodLink RX7 72 yX3_backOf) ∈ TT := tt_2 (List.mem_of_getElem? (i := 143) rfl) rfl
theorem ki_X3_backOf : (Cond.instanceMethod yX3_backOf) ∈ TT := tt_2 (List.mem_of_getElem? (i := 144) rfl) rfl
theorem ks_X3_backOf : (Cond.selects RX3 yX3_backOf yX3_backOf) ∈ TT := tt_2 (List.mem_of_getElem? (i := 145) rfl) rfl
theorem kc_X3_backOf : (Cond.code yX3_backOf prog_5_method_4_code 2 (Option.some Jvm.ClassFile.FieldType.int)) ∈ TT := tt_2 (List.mem_of_getElem? (i := 146) rfl) rfl
theorem km_X7_78 : (Cond.methodLink RX7 78 yX3_placeOf) ∈ TT := tt_2 (List.mem_of_getElem? (i := 147) rfl) rfl
theorem ki_X3_placeOf : (Cond.instanceMethod yX3_placeOf) ∈ TT := tt_2 (List.mem_of_getElem? (i := 148) rfl) rfl
theorem ks_X3_placeOf : (Cond.selects RX3 yX3_placeOf yX3_placeOf) ∈ TT := tt_2 (List.mem_of_getElem? (i := 149) rfl) rfl
theorem kc_X3_placeOf : (Cond.code yX3_placeOf prog_5_method_5_code 2 (Option.some Jvm.ClassFile.FieldType.int)) ∈ TT := tt_2 (List.mem_of_getElem? (i := 150) rfl) rfl
theorem km_L_18 : (Cond.methodLink RL 18 yX11_bow) ∈ TT := tt_2 (List.mem_of_getElem? (i := 151) rfl) rfl
theorem ki_X11_bow : (Cond.instanceMethod yX11_bow) ∈ TT := tt_2 (List.mem_of_getElem? (i := 152) rfl) rfl
theorem ks_X11_bow : (Cond.selects RX11 yX11_bow yX11_bow) ∈ TT := tt_2 (List.mem_of_getElem? (i := 153) rfl) rfl
theorem kc_X11_bow : (Cond.code yX11_bow prog_1_method_3_code 3 (Option.some Jvm.ClassFile.FieldType.int)) ∈ TT := tt_2 (List.mem_of_getElem? (i := 154) rfl) rfl
theorem km_X11_109 : (Cond.methodLink RX11 109 yX9_canBow) ∈ TT := tt_2 (List.mem_of_getElem? (i := 155) rfl) rfl
theorem ki_X9_canBow : (Cond.instanceMethod yX9_canBow) ∈ TT := tt_2 (List.mem_of_getElem? (i := 156) rfl) rfl
theorem ks_X9_canBow : (Cond.selects RX9 yX9_canBow yX9_canBow) ∈ TT := tt_2 (List.mem_of_getElem? (i := 157) rfl) rfl
theorem kc_X9_canBow : (Cond.code yX9_canBow prog_11_method_2_code 3 (Option.some Jvm.ClassFile.FieldType.boolean)) ∈ TT := tt_2 (List.mem_of_getElem? (i := 158) rfl) rfl
theorem km_X9_28 : (Cond.methodLink RX9 28 yX7_meet) ∈ TT := tt_2 (List.mem_of_getElem? (i := 159) rfl) rfl
theorem ki_X7_meet : (Cond.instanceMethod yX7_meet) ∈ TT := tt_2 (List.mem_of_getElem? (i := 160) rfl) rfl
theorem ks_X7_meet : (Cond.selects RX7 yX7_meet yX7_meet) ∈ TT := tt_2 (List.mem_of_getElem? (i := 161) rfl) rfl
theorem kc_X7_meet : (Cond.code yX7_meet prog_9_method_6_code 3 (Option.some Jvm.ClassFile.FieldType.boolean)) ∈ TT := tt_2 (List.mem_of_getElem? (i := 162) rfl) rfl
theorem km_X7_53 : (Cond.methodLink RX7 53 yX7_out) ∈ TT := tt_2 (List.mem_of_getElem? (i := 163) rfl) rfl
theorem ki_X7_out : (Cond.instanceMethod yX7_out) ∈ TT := tt_2 (List.mem_of_getElem? (i := 164) rfl) rfl
theorem ks_X7_out : (Cond.selects RX7 yX7_out yX7_out) ∈ TT := tt_2 (List.mem_of_getElem? (i := 165) rfl) rfl
theorem kc_X7_out : (Cond.code yX7_out prog_9_method_5_code 2 (Option.some Jvm.ClassFile.FieldType.boolean)) ∈ TT := tt_2 (List.mem_of_getElem? (i := 166) rfl) rfl
theorem km_X7_49 : (Cond.methodLink RX7 49 yX7_has) ∈ TT := tt_2 (List.mem_of_getElem? (i := 167) rfl) rfl
theorem ki_X7_has : (Cond.instanceMethod yX7_has) ∈ TT := tt_2 (List.mem_of_getElem? (i := 168) rfl) rfl
theorem ks_X7_has : (Cond.selects RX7 yX7_has yX7_has) ∈ TT := tt_2 (List.mem_of_getElem? (i := 169) rfl) rfl
theorem kc_X7_has : (Cond.code yX7_has prog_9_method_3_code 2 (Option.some Jvm.ClassFile.FieldType.boolean)) ∈ TT := tt_2 (List.mem_of_getElem? (i := 170) rfl) rfl
theorem km_X9_34 : (Cond.methodLink RX9 34 yX7_leftOf) ∈ TT := tt_2 (List.mem_of_getElem? (i := 171) rfl) rfl
theorem ki_X7_leftOf : (Cond.instanceMethod yX7_leftOf) ∈ TT := tt_2 (List.mem_of_getElem? (i := 172) rfl) rfl
theorem ks_X7_leftOf : (Cond.selects RX7 yX7_leftOf yX7_leftOf) ∈ TT := tt_2 (List.mem_of_getElem? (i := 173) rfl) rfl
theorem kc_X7_leftOf : (Cond.code yX7_leftOf prog_9_method_7_code 2 (Option.some Jvm.ClassFile.FieldType.int)) ∈ TT := tt_2 (List.mem_of_getElem? (i := 174) rfl) rfl
theorem km_X9_38 : (Cond.methodLink RX9 38 yX1_sizeOf) ∈ TT := tt_2 (List.mem_of_getElem? (i := 175) rfl) rfl
theorem ki_X1_sizeOf : (Cond.instanceMethod yX1_sizeOf) ∈ TT := tt_2 (List.mem_of_getElem? (i := 176) rfl) rfl
theorem ks_X1_sizeOf : (Cond.selects RX1 yX1_sizeOf yX1_sizeOf) ∈ TT := tt_2 (List.mem_of_getElem? (i := 177) rfl) rfl
theorem kc_X1_sizeOf : (Cond.code yX1_sizeOf prog_3_method_3_code 4 (Option.some Jvm.ClassFile.FieldType.int)) ∈ TT := tt_2 (List.mem_of_getElem? (i := 178) rfl) rfl
theorem km_X1_30 : (Cond.methodLink RX1 30 yX7_owed) ∈ TT := tt_2 (List.mem_of_getElem? (i := 179) rfl) rfl
theorem ki_X7_owed : (Cond.instanceMethod yX7_owed) ∈ TT := tt_2 (List.mem_of_getElem? (i := 180) rfl) rfl
theorem ks_X7_owed : (Cond.selects RX7 yX7_owed yX7_owed) ∈ TT := tt_2 (List.mem_of_getElem? (i := 181) rfl) rfl
theorem kc_X7_owed : (Cond.code yX7_owed prog_9_method_10_code 5 (Option.some Jvm.ClassFile.FieldType.int)) ∈ TT := tt_2 (List.mem_of_getElem? (i := 182) rfl) rfl
theorem km_X1_36 : (Cond.methodLink RX1 36 yX1_has) ∈ TT := tt_2 (List.mem_of_getElem? (i := 183) rfl) rfl
theorem ki_X1_has : (Cond.instanceMethod yX1_has) ∈ TT := tt_2 (List.mem_of_getElem? (i := 185) rfl) rfl
theorem kc_X1_has : (Cond.code yX1_has prog_3_method_7_code 2 (Option.some Jvm.ClassFile.FieldType.boolean)) ∈ TT := tt_2 (List.mem_of_getElem? (i := 186) rfl) rfl
theorem km_X1_52 : (Cond.methodLink RX1 52 yX6_has) ∈ TT := tt_2 (List.mem_of_getElem? (i := 187) rfl) rfl
theorem ki_X6_has : (Cond.instanceMethod yX6_has) ∈ TT := tt_2 (List.mem_of_getElem? (i := 188) rfl) rfl
theorem ks_X6_has : (Cond.selects RX6 yX6_has yX6_has) ∈ TT := tt_2 (List.mem_of_getElem? (i := 189) rfl) rfl
theorem kc_X6_has : (Cond.code yX6_has prog_8_method_11_code 2 (Option.some Jvm.ClassFile.FieldType.boolean)) ∈ TT := tt_2 (List.mem_of_getElem? (i := 190) rfl) rfl
theorem kt_X11_isLaw : (Cond.static yX11_isLaw) ∈ TT := tt_2 (List.mem_of_getElem? (i := 192) rfl) rfl
theorem kc_X11_isLaw : (Cond.code yX11_isLaw prog_1_method_38_code 1 (Option.some Jvm.ClassFile.FieldType.boolean)) ∈ TT := tt_2 (List.mem_of_getElem? (i := 193) rfl) rfl
theorem km_X1_40 : (Cond.methodLink RX1 40 yX1_name) ∈ TT := tt_2 (List.mem_of_getElem? (i := 194) rfl) rfl
theorem ki_X1_name : (Cond.instanceMethod yX1_name) ∈ TT := tt_2 (List.mem_of_getElem? (i := 196) rfl) rfl
theorem kc_X1_name : (Cond.code yX1_name prog_3_method_8_code 4 (Option.none : Option Jvm.ClassFile.FieldType)) ∈ TT := tt_2 (List.mem_of_getElem? (i := 197) rfl) rfl
theorem km_X1_59 : (Cond.methodLink RX1 59 yX7_leftOf) ∈ TT := tt_2 (List.mem_of_getElem? (i := 198) rfl) rfl
theorem km_X1_65 : (Cond.methodLink RX1 65 yX3_ageOf) ∈ TT := tt_2 (List.mem_of_getElem? (i := 199) rfl) rfl
theorem ki_X3_ageOf : (Cond.instanceMethod yX3_ageOf) ∈ TT := tt_2 (List.mem_of_getElem? (i := 200) rfl) rfl
theorem ks_X3_ageOf : (Cond.selects RX3 yX3_ageOf yX3_ageOf) ∈ TT := tt_2 (List.mem_of_getElem? (i := 201) rfl) rfl
theorem kc_X3_ageOf : (Cond.code yX3_ageOf prog_5_method_3_code 2 (Option.some Jvm.ClassFile.FieldType.int)) ∈ TT := tt_2 (List.mem_of_getElem? (i := 202) rfl) rfl
theorem km_X1_44 : (Cond.methodLink RX1 44 yX1_run) ∈ TT := tt_2 (List.mem_of_getElem? (i := 203) rfl) rfl
theorem ki_X1_run : (Cond.instanceMethod yX1_run) ∈ TT := tt_2 (List.mem_of_getElem? (i := 205) rfl) rfl
theorem kc_X1_run : (Cond.code yX1_run prog_3_method_9_code 9 (Option.some Jvm.ClassFile.FieldType.int)) ∈ TT := tt_2 (List.mem_of_getElem? (i := 206) rfl) rfl
theorem km_X1_73 : (Cond.methodLink RX1 73 yX6_start) ∈ TT := tt_2 (List.mem_of_getElem? (i := 207) rfl) rfl
theorem ki_X6_start : (Cond.instanceMethod yX6_start) ∈ TT := tt_2 (List.mem_of_getElem? (i := 208) rfl) rfl
theorem ks_X6_start : (Cond.selects RX6 yX6_start yX6_start) ∈ TT := tt_2 (List.mem_of_getElem? (i := 209) rfl) rfl
theorem kc_X6_start : (Cond.code yX6_start prog_8_method_12_code 2 (Option.some Jvm.ClassFile.FieldType.int)) ∈ TT := tt_2 (List.mem_of_getElem? (i := 210) rfl) rfl
theorem km_X1_76 : (Cond.methodLink RX1 76 yX6_stop) ∈ TT := tt_2 (List.mem_of_getElem? (i := 211) rfl) rfl
theorem ki_X6_stop : (Cond.instanceMethod yX6_stop) ∈ TT := tt_2 (List.mem_of_getElem? (i := 212) rfl) rfl
theorem ks_X6_stop : (Cond.selects RX6 yX6_stop yX6_stop) ∈ TT := tt_2 (List.mem_of_getElem? (i := 213) rfl) rfl
theorem kc_X6_stop : (Cond.code yX6_stop prog_8_method_13_code 2 (Option.some Jvm.ClassFile.FieldType.int)) ∈ TT := tt_2 (List.mem_of_getElem? (i := 214) rfl) rfl
theorem km_X1_79 : (Cond.methodLink RX1 79 yX6_step) ∈ TT := tt_2 (List.mem_of_getElem? (i := 215) rfl) rfl
theorem ki_X6_step : (Cond.instanceMethod yX6_step) ∈ TT := tt_2 (List.mem_of_getElem? (i := 216) rfl) rfl
theorem ks_X6_step : (Cond.selects RX6 yX6_step yX6_step) ∈ TT := tt_2 (List.mem_of_getElem? (i := 217) rfl) rfl
theorem kc_X6_step : (Cond.code yX6_step prog_8_method_14_code 2 (Option.some Jvm.ClassFile.FieldType.int)) ∈ TT := tt_2 (List.mem_of_getElem? (i := 218) rfl) rfl
theorem km_X1_82 : (Cond.methodLink RX1 82 yX1_push) ∈ TT := tt_2 (List.mem_of_getElem? (i := 220) rfl) rfl
theorem ki_X1_push : (Cond.instanceMethod yX1_push) ∈ TT := tt_2 (List.mem_of_getElem? (i := 222) rfl) rfl
theorem kc_X1_push : (Cond.code yX1_push prog_3_method_10_code 2 (Option.none : Option Jvm.ClassFile.FieldType)) ∈ TT := tt_2 (List.mem_of_getElem? (i := 223) rfl) rfl
theorem km_X1_90 : (Cond.methodLink RX1 90 yX1_pop) ∈ TT := tt_2 (List.mem_of_getElem? (i := 225) rfl) rfl
theorem ki_X1_pop : (Cond.instanceMethod yX1_pop) ∈ TT := tt_2 (List.mem_of_getElem? (i := 227) rfl) rfl
theorem kc_X1_pop : (Cond.code yX1_pop prog_3_method_11_code 1 (Option.some Jvm.ClassFile.FieldType.int)) ∈ TT := tt_2 (List.mem_of_getElem? (i := 228) rfl) rfl
theorem km_X1_94 : (Cond.methodLink RX1 94 yX1_joined) ∈ TT := tt_2 (List.mem_of_getElem? (i := 229) rfl) rfl
theorem kt_X1_joined : (Cond.static yX1_joined) ∈ TT := tt_2 (List.mem_of_getElem? (i := 230) rfl) rfl
theorem kc_X1_joined : (Cond.code yX1_joined prog_3_method_12_code 5 (Option.some Jvm.ClassFile.FieldType.int)) ∈ TT := tt_2 (List.mem_of_getElem? (i := 231) rfl) rfl
theorem kk_X1_97 : (Cond.constantLong RX1 97 (-1000000 : Int64)) ∈ TT := tt_2 (List.mem_of_getElem? (i := 232) rfl) rfl
theorem kk_X1_99 : (Cond.constantLong RX1 99 (1000000 : Int64)) ∈ TT := tt_2 (List.mem_of_getElem? (i := 233) rfl) rfl
theorem km_X1_101 : (Cond.methodLink RX1 101 yJ9_min_f86c9) ∈ TT := tt_2 (List.mem_of_getElem? (i := 234) rfl) rfl
theorem kt_J9_min_f86c9 : (Cond.static yJ9_min_f86c9) ∈ TT := tt_2 (List.mem_of_getElem? (i := 235) rfl) rfl
theorem kc_J9_min_f86c9 : (Cond.code yJ9_min_f86c9 prog_17_method_70_code 4 (Option.some Jvm.ClassFile.FieldType.long)) ∈ TT := tt_2 (List.mem_of_getElem? (i := 236) rfl) rfl
theorem km_X1_107 : (Cond.methodLink RX1 107 yJ9_max_f86c9) ∈ TT := tt_2 (List.mem_of_getElem? (i := 237) rfl) rfl
theorem kt_J9_max_f86c9 : (Cond.static yJ9_max_f86c9) ∈ TT := tt_2 (List.mem_of_getElem? (i := 238) rfl) rfl
theorem kc_J9_max_f86c9 : (Cond.code yJ9_max_f86c9 prog_17_method_66_code 4 (Option.some Jvm.ClassFile.FieldType.long)) ∈ TT := tt_2 (List.mem_of_getElem? (i := 239) rfl) rfl
theorem kt_X11_clamped : (Cond.static yX11_clamped) ∈ TT := tt_3 (List.mem_of_getElem? (i := 1) rfl) rfl
theorem kc_X11_clamped : (Cond.code yX11_clamped prog_1_method_37_code 3 (Option.some Jvm.ClassFile.FieldType.int)) ∈ TT := tt_3 (List.mem_of_getElem? (i := 2) rfl) rfl
theorem km_X11_159 : (Cond.methodLink RX11 159 yJ9_min_7cf53) ∈ TT := tt_3 (List.mem_of_getElem? (i := 3) rfl) rfl
theorem kt_J9_min_7cf53 : (Cond.static yJ9_min_7cf53) ∈ TT := tt_3 (List.mem_of_getElem? (i := 4) rfl) rfl
theorem kc_J9_min_7cf53 : (Cond.code yJ9_min_7cf53 prog_17_method_69_code 2 (Option.some Jvm.ClassFile.FieldType.int)) ∈ TT := tt_3 (List.mem_of_getElem? (i := 5) rfl) rfl
theorem km_X11_297 : (Cond.methodLink RX11 297 yJ9_max_7cf53) ∈ TT := tt_3 (List.mem_of_getElem? (i := 6) rfl) rfl
theorem kt_J9_max_7cf53 : (Cond.static yJ9_max_7cf53) ∈ TT := tt_3 (List.mem_of_getElem? (i := 7) rfl) rfl
theorem kc_J9_max_7cf53 : (Cond.code yJ9_max_7cf53 prog_17_method_65_code 2 (Option.some Jvm.ClassFile.FieldType.int)) ∈ TT := tt_3 (List.mem_of_getElem? (i := 8) rfl) rfl
theorem km_X11_113 : (Cond.methodLink RX11 113 yX10_keepStep) ∈ TT := tt_3 (List.mem_of_getElem? (i := 9) rfl) rfl
theorem ki_X10_keepStep : (Cond.instanceMethod yX10_keepStep) ∈ TT := tt_3 (List.mem_of_getElem? (i := 10) rfl) rfl
theorem ks_X10_keepStep : (Cond.selects RX10 yX10_keepStep yX10_keepStep) ∈ TT := tt_3 (List.mem_of_getElem? (i := 11) rfl) rfl
theorem kc_X10_keepStep : (Cond.code yX10_keepStep prog_12_method_3_code 2 (Option.none : Option Jvm.ClassFile.FieldType)) ∈ TT := tt_3 (List.mem_of_getElem? (i := 12) rfl) rfl
theorem km_X10_49 : (Cond.methodLink RX10 49 yX10_step) ∈ TT := tt_3 (List.mem_of_getElem? (i := 13) rfl) rfl
theorem ki_X10_step : (Cond.instanceMethod yX10_step) ∈ TT := tt_3 (List.mem_of_getElem? (i := 15) rfl) rfl
theorem kc_X10_step : (Cond.code yX10_step prog_12_method_4_code 3 (Option.some (Jvm.ClassFile.FieldType.object "BowsOwed$State"))) ∈ TT := tt_3 (List.mem_of_getElem? (i := 16) rfl) rfl
theorem km_X10_30 : (Cond.methodLink RX10 30 yX7_copyFrom) ∈ TT := tt_3 (List.mem_of_getElem? (i := 18) rfl) rfl
theorem ki_X7_copyFrom : (Cond.instanceMethod yX7_copyFrom) ∈ TT := tt_3 (List.mem_of_getElem? (i := 19) rfl) rfl
theorem ks_X7_copyFrom : (Cond.selects RX7 yX7_copyFrom yX7_copyFrom) ∈ TT := tt_3 (List.mem_of_getElem? (i := 20) rfl) rfl
theorem kc_X7_copyFrom : (Cond.code yX7_copyFrom prog_9_method_2_code 2 (Option.none : Option Jvm.ClassFile.FieldType)) ∈ TT := tt_3 (List.mem_of_getElem? (i := 21) rfl) rfl
theorem km_X7_43 : (Cond.methodLink RX7 43 ⟨"java/lang/System", "arraycopy", "(Ljava/lang/Object;ILjava/lang/Object;II)V"⟩) ∈ TT := tt_3 (List.mem_of_getElem? (i := 22) rfl) rfl
theorem kt_8bc877 : (Cond.static ⟨"java/lang/System", "arraycopy", "(Ljava/lang/Object;ILjava/lang/Object;II)V"⟩) ∈ TT := tt_3 (List.mem_of_getElem? (i := 23) rfl) rfl
theorem kn_8bc877 : (Cond.native ⟨"java/lang/System", "arraycopy", "(Ljava/lang/Object;ILjava/lang/Object;II)V"⟩) ∈ TT := tt_3 (List.mem_of_getElem? (i := 24) rfl) rfl
theorem km_X11_116 : (Cond.methodLink RX11 116 yX9_bows) ∈ TT := tt_3 (List.mem_of_getElem? (i := 25) rfl) rfl
theorem ki_X9_bows : (Cond.instanceMethod yX9_bows) ∈ TT := tt_3 (List.mem_of_getElem? (i := 26) rfl) rfl
theorem ks_X9_bows : (Cond.selects RX9 yX9_bows yX9_bows) ∈ TT := tt_3 (List.mem_of_getElem? (i := 27) rfl) rfl
theorem kc_X9_bows : (Cond.code yX9_bows prog_11_method_3_code 6 (Option.none : Option Jvm.ClassFile.FieldType)) ∈ TT := tt_3 (List.mem_of_getElem? (i := 28) rfl) rfl
theorem km_X9_42 : (Cond.methodLink RX9 42 yX7_owed) ∈ TT := tt_3 (List.mem_of_getElem? (i := 29) rfl) rfl
theorem km_X9_45 : (Cond.methodLink RX9 45 yX7_bends) ∈ TT := tt_3 (List.mem_of_getElem? (i := 30) rfl) rfl
theorem ki_X7_bends : (Cond.instanceMethod yX7_bends) ∈ TT := tt_3 (List.mem_of_getElem? (i := 31) rfl) rfl
theorem ks_X7_bends : (Cond.selects RX7 yX7_bends yX7_bends) ∈ TT := tt_3 (List.mem_of_getElem? (i := 32) rfl) rfl
theorem kc_X7_bends : (Cond.code yX7_bends prog_9_method_15_code 3 (Option.none : Option Jvm.ClassFile.FieldType)) ∈ TT := tt_3 (List.mem_of_getElem? (i := 33) rfl) rfl
theorem km_X9_49 : (Cond.methodLink RX9 49 yX7_setOwed) ∈ TT := tt_3 (List.mem_of_getElem? (i := 34) rfl) rfl
theorem ki_X7_setOwed : (Cond.instanceMethod yX7_setOwed) ∈ TT := tt_3 (List.mem_of_getElem? (i := 35) rfl) rfl
theorem ks_X7_setOwed : (Cond.selects RX7 yX7_setOwed yX7_setOwed) ∈ TT := tt_3 (List.mem_of_getElem? (i := 36) rfl) rfl
theorem kc_X7_setOwed : (Cond.code yX7_setOwed prog_9_method_11_code 4 (Option.none : Option Jvm.ClassFile.FieldType)) ∈ TT := tt_3 (List.mem_of_getElem? (i := 37) rfl) rfl
theorem km_X7_56 : (Cond.methodLink RX7 56 yX7_areTwo) ∈ TT := tt_3 (List.mem_of_getElem? (i := 38) rfl) rfl
theorem ki_X7_areTwo : (Cond.instanceMethod yX7_areTwo) ∈ TT := tt_3 (List.mem_of_getElem? (i := 39) rfl) rfl
theorem ks_X7_areTwo : (Cond.selects RX7 yX7_areTwo yX7_areTwo) ∈ TT := tt_3 (List.mem_of_getElem? (i := 40) rfl) rfl
theorem kc_X7_areTwo : (Cond.code yX7_areTwo prog_9_method_4_code 3 (Option.some Jvm.ClassFile.FieldType.boolean)) ∈ TT := tt_3 (List.mem_of_getElem? (i := 41) rfl) rfl
theorem km_X9_53 : (Cond.methodLink RX9 53 yX1_moreOf) ∈ TT := tt_3 (List.mem_of_getElem? (i := 43) rfl) rfl
theorem ki_X1_moreOf : (Cond.instanceMethod yX1_moreOf) ∈ TT := tt_3 (List.mem_of_getElem? (i := 44) rfl) rfl
theorem ks_X1_moreOf : (Cond.selects RX1 yX1_moreOf yX1_moreOf) ∈ TT := tt_3 (List.mem_of_getElem? (i := 45) rfl) rfl
theorem kc_X1_moreOf : (Cond.code yX1_moreOf prog_3_method_4_code 5 (Option.some Jvm.ClassFile.FieldType.int)) ∈ TT := tt_3 (List.mem_of_getElem? (i := 46) rfl) rfl
theorem km_X11_120 : (Cond.methodLink RX11 120 yX7_leftOf) ∈ TT := tt_3 (List.mem_of_getElem? (i := 47) rfl) rfl
theorem km_L_23 : (Cond.methodLink RL 23 yX11_owe) ∈ TT := tt_3 (List.mem_of_getElem? (i := 48) rfl) rfl
theorem ki_X11_owe : (Cond.instanceMethod yX11_owe) ∈ TT := tt_3 (List.mem_of_getElem? (i := 49) rfl) rfl
theorem ks_X11_owe : (Cond.selects RX11 yX11_owe yX11_owe) ∈ TT := tt_3 (List.mem_of_getElem? (i := 50) rfl) rfl
theorem kc_X11_owe : (Cond.code yX11_owe prog_1_method_4_code 6 (Option.some Jvm.ClassFile.FieldType.boolean)) ∈ TT := tt_3 (List.mem_of_getElem? (i := 51) rfl) rfl
theorem km_X11_124 : (Cond.methodLink RX11 124 yX7_areTwo) ∈ TT := tt_3 (List.mem_of_getElem? (i := 52) rfl) rfl
theorem km_X11_127 : (Cond.methodLink RX11 127 yX7_owed) ∈ TT := tt_3 (List.mem_of_getElem? (i := 53) rfl) rfl
theorem km_X11_131 : (Cond.methodLink RX11 131 yX7_setOwed) ∈ TT := tt_3 (List.mem_of_getElem? (i := 54) rfl) rfl
theorem km_L_28 : (Cond.methodLink RL 28 yX11_walk) ∈ TT := tt_3 (List.mem_of_getElem? (i := 55) rfl) rfl
theorem ki_X11_walk : (Cond.instanceMethod yX11_walk) ∈ TT := tt_3 (List.mem_of_getElem? (i := 56) rfl) rfl
theorem ks_X11_walk : (Cond.selects RX11 yX11_walk yX11_walk) ∈ TT := tt_3 (List.mem_of_getElem? (i := 57) rfl) rfl
theorem kc_X11_walk : (Cond.code yX11_walk prog_1_method_5_code 4 (Option.some Jvm.ClassFile.FieldType.int)) ∈ TT := tt_3 (List.mem_of_getElem? (i := 58) rfl) rfl
theorem km_X11_135 : (Cond.methodLink RX11 135 yX7_out) ∈ TT := tt_3 (List.mem_of_getElem? (i := 59) rfl) rfl
theorem km_X11_139 : (Cond.methodLink RX11 139 yX7_walks) ∈ TT := tt_3 (List.mem_of_getElem? (i := 60) rfl) rfl
theorem ki_X7_walks : (Cond.instanceMethod yX7_walks) ∈ TT := tt_3 (List.mem_of_getElem? (i := 61) rfl) rfl
theorem ks_X7_walks : (Cond.selects RX7 yX7_walks yX7_walks) ∈ TT := tt_3 (List.mem_of_getElem? (i := 62) rfl) rfl
theorem kc_X7_walks : (Cond.code yX7_walks prog_9_method_16_code 3 (Option.none : Option Jvm.ClassFile.FieldType)) ∈ TT := tt_3 (List.mem_of_getElem? (i := 63) rfl) rfl
theorem km_X7_81 : (Cond.methodLink RX7 81 yJ9_floorMod_7cf53) ∈ TT := tt_3 (List.mem_of_getElem? (i := 64) rfl) rfl
theorem kt_J9_floorMod_7cf53 : (Cond.static yJ9_floorMod_7cf53) ∈ TT := tt_3 (List.mem_of_getElem? (i := 65) rfl) rfl
theorem kc_J9_floorMod_7cf53 : (Cond.code yJ9_floorMod_7cf53 prog_17_method_50_code 3 (Option.some Jvm.ClassFile.FieldType.int)) ∈ TT := tt_3 (List.mem_of_getElem? (i := 66) rfl) rfl
theorem km_X11_142 : (Cond.methodLink RX11 142 yX7_placeOf) ∈ TT := tt_3 (List.mem_of_getElem? (i := 67) rfl) rfl
theorem ki_X7_placeOf : (Cond.instanceMethod yX7_placeOf) ∈ TT := tt_3 (List.mem_of_getElem? (i := 68) rfl) rfl
theorem ks_X7_placeOf : (Cond.selects RX7 yX7_placeOf yX7_placeOf) ∈ TT := tt_3 (List.mem_of_getElem? (i := 69) rfl) rfl
theorem kc_X7_placeOf : (Cond.code yX7_placeOf prog_9_method_8_code 2 (Option.some Jvm.ClassFile.FieldType.int)) ∈ TT := tt_3 (List.mem_of_getElem? (i := 70) rfl) rfl
theorem km_L_32 : (Cond.methodLink RL 32 yX11_feast) ∈ TT := tt_3 (List.mem_of_getElem? (i := 71) rfl) rfl
theorem ki_X11_feast : (Cond.instanceMethod yX11_feast) ∈ TT := tt_3 (List.mem_of_getElem? (i := 72) rfl) rfl
theorem ks_X11_feast : (Cond.selects RX11 yX11_feast yX11_feast) ∈ TT := tt_3 (List.mem_of_getElem? (i := 73) rfl) rfl
theorem kc_X11_feast : (Cond.code yX11_feast prog_1_method_6_code 1 (Option.some Jvm.ClassFile.FieldType.int)) ∈ TT := tt_3 (List.mem_of_getElem? (i := 74) rfl) rfl
theorem km_X11_145 : (Cond.methodLink RX11 145 yX7_forgives) ∈ TT := tt_3 (List.mem_of_getElem? (i := 75) rfl) rfl
theorem ki_X7_forgives : (Cond.instanceMethod yX7_forgives) ∈ TT := tt_3 (List.mem_of_getElem? (i := 76) rfl) rfl
theorem ks_X7_forgives : (Cond.selects RX7 yX7_forgives yX7_forgives) ∈ TT := tt_3 (List.mem_of_getElem? (i := 77) rfl) rfl
theorem kc_X7_forgives : (Cond.code yX7_forgives prog_9_method_17_code 5 (Option.some Jvm.ClassFile.FieldType.int)) ∈ TT := tt_3 (List.mem_of_getElem? (i := 78) rfl) rfl
theorem km_X7_64 : (Cond.methodLink RX7 64 yX7_owed) ∈ TT := tt_3 (List.mem_of_getElem? (i := 79) rfl) rfl
theorem km_X7_86 : (Cond.methodLink RX7 86 yX7_setOwed) ∈ TT := tt_3 (List.mem_of_getElem? (i := 80) rfl) rfl
theorem km_L_37 : (Cond.methodLink RL 37 yX11_clear) ∈ TT := tt_3 (List.mem_of_getElem? (i := 81) rfl) rfl
theorem ki_X11_clear : (Cond.instanceMethod yX11_clear) ∈ TT := tt_3 (List.mem_of_getElem? (i := 82) rfl) rfl
theorem ks_X11_clear : (Cond.selects RX11 yX11_clear yX11_clear) ∈ TT := tt_3 (List.mem_of_getElem? (i := 83) rfl) rfl
theorem kc_X11_clear : (Cond.code yX11_clear prog_1_method_7_code 5 (Option.some Jvm.ClassFile.FieldType.int)) ∈ TT := tt_3 (List.mem_of_getElem? (i := 84) rfl) rfl
theorem km_X11_149 : (Cond.methodLink RX11 149 yX7_clearable) ∈ TT := tt_3 (List.mem_of_getElem? (i := 85) rfl) rfl
theorem ki_X7_clearable : (Cond.instanceMethod yX7_clearable) ∈ TT := tt_3 (List.mem_of_getElem? (i := 86) rfl) rfl
theorem ks_X7_clearable : (Cond.selects RX7 yX7_clearable yX7_clearable) ∈ TT := tt_3 (List.mem_of_getElem? (i := 87) rfl) rfl
theorem kc_X7_clearable : (Cond.code yX7_clearable prog_9_method_18_code 4 (Option.some Jvm.ClassFile.FieldType.int)) ∈ TT := tt_3 (List.mem_of_getElem? (i := 88) rfl) rfl
theorem km_X7_90 : (Cond.methodLink RX7 90 yX7_meet) ∈ TT := tt_3 (List.mem_of_getElem? (i := 89) rfl) rfl
theorem km_X7_93 : (Cond.methodLink RX7 93 yJ9_min_7cf53) ∈ TT := tt_3 (List.mem_of_getElem? (i := 90) rfl) rfl
theorem km_X11_153 : (Cond.methodLink RX11 153 yX7_clears) ∈ TT := tt_3 (List.mem_of_getElem? (i := 91) rfl) rfl
theorem ki_X7_clears : (Cond.instanceMethod yX7_clears) ∈ TT := tt_3 (List.mem_of_getElem? (i := 92) rfl) rfl
theorem ks_X7_clears : (Cond.selects RX7 yX7_clears yX7_clears) ∈ TT := tt_3 (List.mem_of_getElem? (i := 93) rfl) rfl
theorem kc_X7_clears : (Cond.code yX7_clears prog_9_method_19_code 5 (Option.none : Option Jvm.ClassFile.FieldType)) ∈ TT := tt_3 (List.mem_of_getElem? (i := 94) rfl) rfl
theorem km_L_41 : (Cond.methodLink RL 41 yX11_hour) ∈ TT := tt_3 (List.mem_of_getElem? (i := 95) rfl) rfl
theorem ki_X11_hour : (Cond.instanceMethod yX11_hour) ∈ TT := tt_3 (List.mem_of_getElem? (i := 96) rfl) rfl
theorem ks_X11_hour : (Cond.selects RX11 yX11_hour yX11_hour) ∈ TT := tt_3 (List.mem_of_getElem? (i := 97) rfl) rfl
theorem kc_X11_hour : (Cond.code yX11_hour prog_1_method_8_code 4 (Option.some Jvm.ClassFile.FieldType.int)) ∈ TT := tt_3 (List.mem_of_getElem? (i := 98) rfl) rfl
theorem km_X11_156 : (Cond.methodLink RX11 156 yX7_hoursToCome) ∈ TT := tt_3 (List.mem_of_getElem? (i := 99) rfl) rfl
theorem ki_X7_hoursToCome : (Cond.instanceMethod yX7_hoursToCome) ∈ TT := tt_3 (List.mem_of_getElem? (i := 100) rfl) rfl
theorem ks_X7_hoursToCome : (Cond.selects RX7 yX7_hoursToCome yX7_hoursToCome) ∈ TT := tt_3 (List.mem_of_getElem? (i := 101) rfl) rfl
theorem kc_X7_hoursToCome : (Cond.code yX7_hoursToCome prog_9_method_20_code 1 (Option.some Jvm.ClassFile.FieldType.int)) ∈ TT := tt_3 (List.mem_of_getElem? (i := 102) rfl) rfl
theorem km_X11_164 : (Cond.methodLink RX11 164 yX9_passHour) ∈ TT := tt_3 (List.mem_of_getElem? (i := 103) rfl) rfl
theorem ki_X9_passHour : (Cond.instanceMethod yX9_passHour) ∈ TT := tt_3 (List.mem_of_getElem? (i := 104) rfl) rfl
theorem ks_X9_passHour : (Cond.selects RX9 yX9_passHour yX9_passHour) ∈ TT := tt_3 (List.mem_of_getElem? (i := 105) rfl) rfl
theorem kc_X9_passHour : (Cond.code yX9_passHour prog_11_method_4_code 3 (Option.some Jvm.ClassFile.FieldType.int)) ∈ TT := tt_3 (List.mem_of_getElem? (i := 106) rfl) rfl
theorem km_X9_67 : (Cond.methodLink RX9 67 yX1_lateOf) ∈ TT := tt_3 (List.mem_of_getElem? (i := 107) rfl) rfl
theorem ki_X1_lateOf : (Cond.instanceMethod yX1_lateOf) ∈ TT := tt_3 (List.mem_of_getElem? (i := 108) rfl) rfl
theorem ks_X1_lateOf : (Cond.selects RX1 yX1_lateOf yX1_lateOf) ∈ TT := tt_3 (List.mem_of_getElem? (i := 109) rfl) rfl
theorem kc_X1_lateOf : (Cond.code yX1_lateOf prog_3_method_5_code 4 (Option.some Jvm.ClassFile.FieldType.int)) ∈ TT := tt_3 (List.mem_of_getElem? (i := 110) rfl) rfl
theorem km_X9_70 : (Cond.methodLink RX9 70 yX3_backOf) ∈ TT := tt_3 (List.mem_of_getElem? (i := 111) rfl) rfl
theorem km_X9_75 : (Cond.methodLink RX9 75 yX7_sleeps) ∈ TT := tt_3 (List.mem_of_getElem? (i := 112) rfl) rfl
theorem ki_X7_sleeps : (Cond.instanceMethod yX7_sleeps) ∈ TT := tt_3 (List.mem_of_getElem? (i := 113) rfl) rfl
theorem ks_X7_sleeps : (Cond.selects RX7 yX7_sleeps yX7_sleeps) ∈ TT := tt_3 (List.mem_of_getElem? (i := 114) rfl) rfl
theorem kc_X7_sleeps : (Cond.code yX7_sleeps prog_9_method_21_code 3 (Option.none : Option Jvm.ClassFile.FieldType)) ∈ TT := tt_3 (List.mem_of_getElem? (i := 115) rfl) rfl
theorem km_X7_96 : (Cond.methodLink RX7 96 yJ9_max_7cf53) ∈ TT := tt_3 (List.mem_of_getElem? (i := 116) rfl) rfl
theorem km_X9_78 : (Cond.methodLink RX9 78 yX7_owesTogether) ∈ TT := tt_3 (List.mem_of_getElem? (i := 117) rfl) rfl
theorem ki_X7_owesTogether : (Cond.instanceMethod yX7_owesTogether) ∈ TT := tt_3 (List.mem_of_getElem? (i := 118) rfl) rfl
theorem ks_X7_owesTogether : (Cond.selects RX7 yX7_owesTogether yX7_owesTogether) ∈ TT := tt_3 (List.mem_of_getElem? (i := 119) rfl) rfl
theorem kc_X7_owesTogether : (Cond.code yX7_owesTogether prog_9_method_12_code 4 (Option.some Jvm.ClassFile.FieldType.int)) ∈ TT := tt_3 (List.mem_of_getElem? (i := 120) rfl) rfl
theorem km_X9_81 : (Cond.methodLink RX9 81 yX1_ruinOf) ∈ TT := tt_3 (List.mem_of_getElem? (i := 121) rfl) rfl
theorem ki_X1_ruinOf : (Cond.instanceMethod yX1_ruinOf) ∈ TT := tt_3 (List.mem_of_getElem? (i := 122) rfl) rfl
theorem ks_X1_ruinOf : (Cond.selects RX1 yX1_ruinOf yX1_ruinOf) ∈ TT := tt_3 (List.mem_of_getElem? (i := 123) rfl) rfl
theorem kc_X1_ruinOf : (Cond.code yX1_ruinOf prog_3_method_6_code 3 (Option.some Jvm.ClassFile.FieldType.int)) ∈ TT := tt_3 (List.mem_of_getElem? (i := 124) rfl) rfl
theorem km_X9_84 : (Cond.methodLink RX9 84 yX7_ruins) ∈ TT := tt_3 (List.mem_of_getElem? (i := 125) rfl) rfl
theorem ki_X7_ruins : (Cond.instanceMethod yX7_ruins) ∈ TT := tt_3 (List.mem_of_getElem? (i := 126) rfl) rfl
theorem ks_X7_ruins : (Cond.selects RX7 yX7_ruins yX7_ruins) ∈ TT := tt_3 (List.mem_of_getElem? (i := 127) rfl) rfl
theorem kc_X7_ruins : (Cond.code yX7_ruins prog_9_method_22_code 3 (Option.none : Option Jvm.ClassFile.FieldType)) ∈ TT := tt_3 (List.mem_of_getElem? (i := 128) rfl) rfl
theorem km_X7_99 : (Cond.methodLink RX7 99 yX7_owesTogether) ∈ TT := tt_3 (List.mem_of_getElem? (i := 129) rfl) rfl
theorem km_X7_102 : (Cond.methodLink RX7 102 yX7_write) ∈ TT := tt_3 (List.mem_of_getElem? (i := 130) rfl) rfl
theorem ki_X7_write : (Cond.instanceMethod yX7_write) ∈ TT := tt_3 (List.mem_of_getElem? (i := 132) rfl) rfl
theorem kc_X7_write : (Cond.code yX7_write prog_9_method_23_code 4 (Option.none : Option Jvm.ClassFile.FieldType)) ∈ TT := tt_3 (List.mem_of_getElem? (i := 133) rfl) rfl
theorem km_L_46 : (Cond.methodLink RL 46 yX11_weeks) ∈ TT := tt_3 (List.mem_of_getElem? (i := 134) rfl) rfl
theorem ki_X11_weeks : (Cond.instanceMethod yX11_weeks) ∈ TT := tt_3 (List.mem_of_getElem? (i := 135) rfl) rfl
theorem ks_X11_weeks : (Cond.selects RX11 yX11_weeks yX11_weeks) ∈ TT := tt_3 (List.mem_of_getElem? (i := 136) rfl) rfl
theorem kc_X11_weeks : (Cond.code yX11_weeks prog_1_method_9_code 5 (Option.some Jvm.ClassFile.FieldType.int)) ∈ TT := tt_3 (List.mem_of_getElem? (i := 137) rfl) rfl
theorem km_X11_170 : (Cond.methodLink RX11 170 yX9_drawDeed) ∈ TT := tt_3 (List.mem_of_getElem? (i := 138) rfl) rfl
theorem ki_X9_drawDeed : (Cond.instanceMethod yX9_drawDeed) ∈ TT := tt_3 (List.mem_of_getElem? (i := 139) rfl) rfl
theorem ks_X9_drawDeed : (Cond.selects RX9 yX9_drawDeed yX9_drawDeed) ∈ TT := tt_3 (List.mem_of_getElem? (i := 140) rfl) rfl
theorem kc_X9_drawDeed : (Cond.code yX9_drawDeed prog_11_method_5_code 4 (Option.none : Option Jvm.ClassFile.FieldType)) ∈ TT := tt_3 (List.mem_of_getElem? (i := 141) rfl) rfl
theorem km_X9_88 : (Cond.methodLink RX9 88 yX7_draw) ∈ TT := tt_3 (List.mem_of_getElem? (i := 142) rfl) rfl
theorem ki_X7_draw : (Cond.instanceMethod yX7_draw) ∈ TT := tt_3 (List.mem_of_getElem? (i := 143) rfl) rfl
theorem ks_X7_draw : (Cond.selects RX7 yX7_draw yX7_draw) ∈ TT := tt_3 (List.mem_of_getElem? (i := 144) rfl) rfl
theorem kc_X7_draw : (Cond.code yX7_draw prog_9_method_25_code 3 (Option.some Jvm.ClassFile.FieldType.int)) ∈ TT := tt_3 (List.mem_of_getElem? (i := 145) rfl) rfl
theorem km_X9_91 : (Cond.methodLink RX9 91 yX9_canBow) ∈ TT := tt_3 (List.mem_of_getElem? (i := 146) rfl) rfl
theorem km_X9_94 : (Cond.methodLink RX9 94 yX9_bows) ∈ TT := tt_3 (List.mem_of_getElem? (i := 147) rfl) rfl
theorem km_X9_97 : (Cond.methodLink RX9 97 yX7_out) ∈ TT := tt_3 (List.mem_of_getElem? (i := 148) rfl) rfl
theorem km_X9_101 : (Cond.methodLink RX9 101 yX7_walks) ∈ TT := tt_3 (List.mem_of_getElem? (i := 149) rfl) rfl
theorem km_X9_104 : (Cond.methodLink RX9 104 yX7_forgives) ∈ TT := tt_3 (List.mem_of_getElem? (i := 150) rfl) rfl
theorem km_X9_108 : (Cond.methodLink RX9 108 yX7_hoursToCome) ∈ TT := tt_3 (List.mem_of_getElem? (i := 151) rfl) rfl
theorem km_X9_111 : (Cond.methodLink RX9 111 yX9_passHour) ∈ TT := tt_3 (List.mem_of_getElem? (i := 152) rfl) rfl
theorem km_L_50 : (Cond.methodLink RL 50 yX11_feed) ∈ TT := tt_3 (List.mem_of_getElem? (i := 153) rfl) rfl
theorem ki_X11_feed : (Cond.instanceMethod yX11_feed) ∈ TT := tt_3 (List.mem_of_getElem? (i := 154) rfl) rfl
theorem ks_X11_feed : (Cond.selects RX11 yX11_feed yX11_feed) ∈ TT := tt_3 (List.mem_of_getElem? (i := 155) rfl) rfl
theorem kc_X11_feed : (Cond.code yX11_feed prog_1_method_10_code 6 (Option.some Jvm.ClassFile.FieldType.int)) ∈ TT := tt_3 (List.mem_of_getElem? (i := 156) rfl) rfl
theorem km_X11_179 : (Cond.methodLink RX11 179 yX8_add) ∈ TT := tt_3 (List.mem_of_getElem? (i := 157) rfl) rfl
theorem ki_X8_add : (Cond.instanceMethod yX8_add) ∈ TT := tt_3 (List.mem_of_getElem? (i := 158) rfl) rfl
theorem ks_X8_add : (Cond.selects RX8 yX8_add yX8_add) ∈ TT := tt_3 (List.mem_of_getElem? (i := 159) rfl) rfl
theorem kc_X8_add : (Cond.code yX8_add prog_10_method_2_code 3 (Option.none : Option Jvm.ClassFile.FieldType)) ∈ TT := tt_3 (List.mem_of_getElem? (i := 160) rfl) rfl
theorem km_L_55 : (Cond.methodLink RL 55 yX11_end) ∈ TT := tt_3 (List.mem_of_getElem? (i := 162) rfl) rfl
theorem ki_X11_end : (Cond.instanceMethod yX11_end) ∈ TT := tt_3 (List.mem_of_getElem? (i := 163) rfl) rfl
theorem ks_X11_end : (Cond.selects RX11 yX11_end yX11_end) ∈ TT := tt_3 (List.mem_of_getElem? (i := 164) rfl) rfl
theorem kc_X11_end : (Cond.code yX11_end prog_1_method_11_code 2 (Option.some Jvm.ClassFile.FieldType.int)) ∈ TT := tt_3 (List.mem_of_getElem? (i := 165) rfl) rfl
theorem km_L_59 : (Cond.methodLink RL 59 yX11_text) ∈ TT := tt_3 (List.mem_of_getElem? (i := 166) rfl) rfl
theorem ki_X11_text : (Cond.instanceMethod yX11_text) ∈ TT := tt_3 (List.mem_of_getElem? (i := 167) rfl) rfl
theorem ks_X11_text : (Cond.selects RX11 yX11_text yX11_text) ∈ TT := tt_3 (List.mem_of_getElem? (i := 168) rfl) rfl
theorem kc_X11_text : (Cond.code yX11_text prog_1_method_12_code 3 (Option.some Jvm.ClassFile.FieldType.int)) ∈ TT := tt_3 (List.mem_of_getElem? (i := 169) rfl) rfl
theorem km_X11_185 : (Cond.methodLink RX11 185 yX4_read) ∈ TT := tt_3 (List.mem_of_getElem? (i := 170) rfl) rfl
theorem ki_X4_read : (Cond.instanceMethod yX4_read) ∈ TT := tt_3 (List.mem_of_getElem? (i := 171) rfl) rfl
theorem ks_X4_read : (Cond.selects RX4 yX4_read yX4_read) ∈ TT := tt_3 (List.mem_of_getElem? (i := 172) rfl) rfl
theorem kc_X4_read : (Cond.code yX4_read prog_6_method_2_code 2 (Option.some Jvm.ClassFile.FieldType.boolean)) ∈ TT := tt_3 (List.mem_of_getElem? (i := 173) rfl) rfl
theorem km_X4_29 : (Cond.methodLink RX4 29 yX6_empty) ∈ TT := tt_3 (List.mem_of_getElem? (i := 174) rfl) rfl
theorem ki_X6_empty : (Cond.instanceMethod yX6_empty) ∈ TT := tt_3 (List.mem_of_getElem? (i := 175) rfl) rfl
theorem ks_X6_empty : (Cond.selects RX6 yX6_empty yX6_empty) ∈ TT := tt_3 (List.mem_of_getElem? (i := 176) rfl) rfl
theorem kc_X6_empty : (Cond.code yX6_empty prog_8_method_2_code 2 (Option.none : Option Jvm.ClassFile.FieldType)) ∈ TT := tt_3 (List.mem_of_getElem? (i := 177) rfl) rfl
theorem km_X4_32 : (Cond.methodLink RX4 32 yX8_rewind) ∈ TT := tt_3 (List.mem_of_getElem? (i := 178) rfl) rfl
theorem ki_X8_rewind : (Cond.instanceMethod yX8_rewind) ∈ TT := tt_3 (List.mem_of_getElem? (i := 179) rfl) rfl
theorem ks_X8_rewind : (Cond.selects RX8 yX8_rewind yX8_rewind) ∈ TT := tt_3 (List.mem_of_getElem? (i := 180) rfl) rfl
theorem kc_X8_rewind : (Cond.code yX8_rewind prog_10_method_3_code 1 (Option.none : Option Jvm.ClassFile.FieldType)) ∈ TT := tt_3 (List.mem_of_getElem? (i := 181) rfl) rfl
theorem km_X8_26 : (Cond.methodLink RX8 26 yX8_next) ∈ TT := tt_3 (List.mem_of_getElem? (i := 182) rfl) rfl
theorem ki_X8_next : (Cond.instanceMethod yX8_next) ∈ TT := tt_3 (List.mem_of_getElem? (i := 183) rfl) rfl
theorem ks_X8_next : (Cond.selects RX8 yX8_next yX8_next) ∈ TT := tt_3 (List.mem_of_getElem? (i := 184) rfl) rfl
theorem kc_X8_next : (Cond.code yX8_next prog_10_method_4_code 2 (Option.none : Option Jvm.ClassFile.FieldType)) ∈ TT := tt_3 (List.mem_of_getElem? (i := 185) rfl) rfl
theorem km_X8_29 : (Cond.methodLink RX8 29 yX8_byteAt) ∈ TT := tt_3 (List.mem_of_getElem? (i := 186) rfl) rfl
theorem ki_X8_byteAt : (Cond.instanceMethod yX8_byteAt) ∈ TT := tt_3 (List.mem_of_getElem? (i := 188) rfl) rfl
theorem kc_X8_byteAt : (Cond.code yX8_byteAt prog_10_method_8_code 2 (Option.some Jvm.ClassFile.FieldType.int)) ∈ TT := tt_3 (List.mem_of_getElem? (i := 189) rfl) rfl
theorem km_X8_42 : (Cond.methodLink RX8 42 yX8_isLetter) ∈ TT := tt_3 (List.mem_of_getElem? (i := 190) rfl) rfl
theorem kt_X8_isLetter : (Cond.static yX8_isLetter) ∈ TT := tt_3 (List.mem_of_getElem? (i := 191) rfl) rfl
theorem kc_X8_isLetter : (Cond.code yX8_isLetter prog_10_method_9_code 1 (Option.some Jvm.ClassFile.FieldType.boolean)) ∈ TT := tt_3 (List.mem_of_getElem? (i := 192) rfl) rfl
theorem km_X8_46 : (Cond.methodLink RX8 46 yX8_takeWord) ∈ TT := tt_3 (List.mem_of_getElem? (i := 193) rfl) rfl
theorem ki_X8_takeWord : (Cond.instanceMethod yX8_takeWord) ∈ TT := tt_3 (List.mem_of_getElem? (i := 195) rfl) rfl
theorem kc_X8_takeWord : (Cond.code yX8_takeWord prog_10_method_5_code 5 (Option.none : Option Jvm.ClassFile.FieldType)) ∈ TT := tt_3 (List.mem_of_getElem? (i := 196) rfl) rfl
theorem km_X8_61 : (Cond.methodLink RX8 61 yJ0_length_8abf5) ∈ TT := tt_3 (List.mem_of_getElem? (i := 198) rfl) rfl
theorem ki_J0_length_8abf5 : (Cond.instanceMethod yJ0_length_8abf5) ∈ TT := tt_3 (List.mem_of_getElem? (i := 199) rfl) rfl
theorem ks_J0_length_8abf5 : (Cond.selects RJ0 yJ0_length_8abf5 yJ0_length_8abf5) ∈ TT := tt_3 (List.mem_of_getElem? (i := 200) rfl) rfl
theorem kc_J0_length_8abf5 : (Cond.code yJ0_length_8abf5 prog_18_method_54_code 1 (Option.some Jvm.ClassFile.FieldType.int)) ∈ TT := tt_3 (List.mem_of_getElem? (i := 201) rfl) rfl
theorem km_J0_335 : (Cond.methodLink RJ0 335 yJ0_coder_7d493) ∈ TT := tt_3 (List.mem_of_getElem? (i := 202) rfl) rfl
theorem ki_J0_coder_7d493 : (Cond.instanceMethod yJ0_coder_7d493) ∈ TT := tt_3 (List.mem_of_getElem? (i := 203) rfl) rfl
theorem ks_J0_coder_7d493 : (Cond.selects RJ0 yJ0_coder_7d493 yJ0_coder_7d493) ∈ TT := tt_3 (List.mem_of_getElem? (i := 204) rfl) rfl
theorem kc_J0_coder_7d493 : (Cond.code yJ0_coder_7d493 prog_18_method_152_code 1 (Option.some Jvm.ClassFile.FieldType.byte)) ∈ TT := tt_3 (List.mem_of_getElem? (i := 205) rfl) rfl
theorem kf_J0_38 : (Cond.fieldLink RJ0 38 "java/lang/String" "COMPACT_STRINGS" "Z") ∈ TT := tt_3 (List.mem_of_getElem? (i := 206) rfl) rfl
theorem km_X8_66 : (Cond.methodLink RX8 66 yJ0_charAt_5068e) ∈ TT := tt_3 (List.mem_of_getElem? (i := 208) rfl) rfl
theorem ki_J0_charAt_5068e : (Cond.instanceMethod yJ0_charAt_5068e) ∈ TT := tt_3 (List.mem_of_getElem? (i := 209) rfl) rfl
theorem ks_J0_charAt_5068e : (Cond.selects RJ0 yJ0_charAt_5068e yJ0_charAt_5068e) ∈ TT := tt_3 (List.mem_of_getElem? (i := 210) rfl) rfl
theorem kc_J0_charAt_5068e : (Cond.code yJ0_charAt_5068e prog_18_method_56_code 2 (Option.some Jvm.ClassFile.FieldType.char)) ∈ TT := tt_3 (List.mem_of_getElem? (i := 211) rfl) rfl
theorem km_J0_492 : (Cond.methodLink RJ0 492 yJ0_isLatin1_aae02) ∈ TT := tt_3 (List.mem_of_getElem? (i := 212) rfl) rfl
theorem ki_J0_isLatin1_aae02 : (Cond.instanceMethod yJ0_isLatin1_aae02) ∈ TT := tt_3 (List.mem_of_getElem? (i := 213) rfl) rfl
theorem ks_J0_isLatin1_aae02 : (Cond.selects RJ0 yJ0_isLatin1_aae02 yJ0_isLatin1_aae02) ∈ TT := tt_3 (List.mem_of_getElem? (i := 214) rfl) rfl
theorem kc_J0_isLatin1_aae02 : (Cond.code yJ0_isLatin1_aae02 prog_18_method_154_code 1 (Option.some Jvm.ClassFile.FieldType.boolean)) ∈ TT := tt_3 (List.mem_of_getElem? (i := 215) rfl) rfl
theorem km_J0_495 : (Cond.methodLink RJ0 495 yJ1_charAt_3b067) ∈ TT := tt_3 (List.mem_of_getElem? (i := 216) rfl) rfl
theorem kt_J1_charAt_3b067 : (Cond.static yJ1_charAt_3b067) ∈ TT := tt_3 (List.mem_of_getElem? (i := 217) rfl) rfl
theorem kc_J1_charAt_3b067 : (Cond.code yJ1_charAt_3b067 prog_19_method_2_code 2 (Option.some Jvm.ClassFile.FieldType.char)) ∈ TT := tt_3 (List.mem_of_getElem? (i := 218) rfl) rfl
theorem km_J1_9 : (Cond.methodLink RJ1 9 yJ0_checkIndex_df160) ∈ TT := tt_3 (List.mem_of_getElem? (i := 219) rfl) rfl
theorem kt_J0_checkIndex_df160 : (Cond.static yJ0_checkIndex_df160) ∈ TT := tt_3 (List.mem_of_getElem? (i := 220) rfl) rfl
theorem kc_J0_checkIndex_df160 : (Cond.code yJ0_checkIndex_df160 prog_18_method_155_code 2 (Option.none : Option Jvm.ClassFile.FieldType)) ∈ TT := tt_3 (List.mem_of_getElem? (i := 221) rfl) rfl
theorem kf_J0_1053 : (Cond.fieldLink RJ0 1053 "jdk/internal/util/Preconditions" "SIOOBE_FORMATTER" "Ljava/util/function/BiFunction;") ∈ TT := tt_3 (List.mem_of_getElem? (i := 222) rfl) rfl
theorem km_J0_1059 : (Cond.methodLink RJ0 1059 yJ3_checkIndex_8e157) ∈ TT := tt_3 (List.mem_of_getElem? (i := 224) rfl) rfl
theorem kt_J3_checkIndex_8e157 : (Cond.static yJ3_checkIndex_8e157) ∈ TT := tt_3 (List.mem_of_getElem? (i := 225) rfl) rfl
theorem kc_J3_checkIndex_8e157 : (Cond.code yJ3_checkIndex_8e157 prog_22_method_11_code 3 (Option.some Jvm.ClassFile.FieldType.int)) ∈ TT := tt_3 (List.mem_of_getElem? (i := 226) rfl) rfl
theorem km_J0_498 : (Cond.methodLink RJ0 498 yJ2_charAt_3b067) ∈ TT := tt_3 (List.mem_of_getElem? (i := 227) rfl) rfl
theorem kt_J2_charAt_3b067 : (Cond.static yJ2_charAt_3b067) ∈ TT := tt_3 (List.mem_of_getElem? (i := 228) rfl) rfl
theorem kc_J2_charAt_3b067 : (Cond.code yJ2_charAt_3b067 prog_20_method_83_code 2 (Option.some Jvm.ClassFile.FieldType.char)) ∈ TT := tt_3 (List.mem_of_getElem? (i := 229) rfl) rfl
theorem km_J2_67 : (Cond.methodLink RJ2 67 yJ2_checkIndex_2214a) ∈ TT := tt_3 (List.mem_of_getElem? (i := 230) rfl) rfl
theorem kt_J2_checkIndex_2214a : (Cond.static yJ2_checkIndex_2214a) ∈ TT := tt_3 (List.mem_of_getElem? (i := 231) rfl) rfl
theorem kc_J2_checkIndex_2214a : (Cond.code yJ2_checkIndex_2214a prog_20_method_91_code 2 (Option.none : Option Jvm.ClassFile.FieldType)) ∈ TT := tt_3 (List.mem_of_getElem? (i := 232) rfl) rfl
theorem km_J2_48 : (Cond.methodLink RJ2 48 yJ2_length_9d52b) ∈ TT := tt_3 (List.mem_of_getElem? (i := 233) rfl) rfl
theorem kt_J2_length_9d52b : (Cond.static yJ2_length_9d52b) ∈ TT := tt_3 (List.mem_of_getElem? (i := 234) rfl) rfl
theorem kc_J2_length_9d52b : (Cond.code yJ2_length_9d52b prog_20_method_6_code 1 (Option.some Jvm.ClassFile.FieldType.int)) ∈ TT := tt_3 (List.mem_of_getElem? (i := 235) rfl) rfl
theorem km_J2_414 : (Cond.methodLink RJ2 414 yJ0_checkIndex_df160) ∈ TT := tt_3 (List.mem_of_getElem? (i := 236) rfl) rfl
theorem km_J2_71 : (Cond.methodLink RJ2 71 yJ2_getChar_3b067) ∈ TT := tt_3 (List.mem_of_getElem? (i := 237) rfl) rfl
theorem kt_J2_getChar_3b067 : (Cond.static yJ2_getChar_3b067) ∈ TT := tt_3 (List.mem_of_getElem? (i := 238) rfl) rfl
theorem kc_J2_getChar_3b067 : (Cond.code yJ2_getChar_3b067 prog_20_method_5_code 2 (Option.some Jvm.ClassFile.FieldType.char)) ∈ TT := tt_3 (List.mem_of_getElem? (i := 239) rfl) rfl
theorem kf_J2_44 : (Cond.fieldLink RJ2 44 "java/lang/StringUTF16" "$assertionsDisabled" "Z") ∈ TT := tt_4 (List.mem_of_getElem? (i := 0) rfl) rfl
theorem kf_J2_59 : (Cond.fieldLink RJ2 59 "java/lang/StringUTF16" "HI_BYTE_SHIFT" "I") ∈ TT := tt_4 (List.mem_of_getElem? (i := 2) rfl) rfl
theorem kf_J2_63 : (Cond.fieldLink RJ2 63 "java/lang/StringUTF16" "LO_BYTE_SHIFT" "I") ∈ TT := tt_4 (List.mem_of_getElem? (i := 4) rfl) rfl
theorem km_X8_49 : (Cond.methodLink RX8 49 yX8_isDigit) ∈ TT := tt_4 (List.mem_of_getElem? (i := 6) rfl) rfl
theorem kt_X8_isDigit : (Cond.static yX8_isDigit) ∈ TT := tt_4 (List.mem_of_getElem? (i := 7) rfl) rfl
theorem kc_X8_isDigit : (Cond.code yX8_isDigit prog_10_method_10_code 1 (Option.some Jvm.ClassFile.FieldType.boolean)) ∈ TT := tt_4 (List.mem_of_getElem? (i := 8) rfl) rfl
theorem km_X8_52 : (Cond.methodLink RX8 52 yX8_takeNumber) ∈ TT := tt_4 (List.mem_of_getElem? (i := 9) rfl) rfl
theorem ki_X8_takeNumber : (Cond.instanceMethod yX8_takeNumber) ∈ TT := tt_4 (List.mem_of_getElem? (i := 11) rfl) rfl
theorem kc_X8_takeNumber : (Cond.code yX8_takeNumber prog_10_method_6_code 1 (Option.none : Option Jvm.ClassFile.FieldType)) ∈ TT := tt_4 (List.mem_of_getElem? (i := 12) rfl) rfl
theorem km_X8_70 : (Cond.methodLink RX8 70 yJ9_min_7cf53) ∈ TT := tt_4 (List.mem_of_getElem? (i := 13) rfl) rfl
theorem km_X8_55 : (Cond.methodLink RX8 55 yX8_takeSign) ∈ TT := tt_4 (List.mem_of_getElem? (i := 14) rfl) rfl
theorem ki_X8_takeSign : (Cond.instanceMethod yX8_takeSign) ∈ TT := tt_4 (List.mem_of_getElem? (i := 16) rfl) rfl
theorem kc_X8_takeSign : (Cond.code yX8_takeSign prog_10_method_7_code 3 (Option.none : Option Jvm.ClassFile.FieldType)) ∈ TT := tt_4 (List.mem_of_getElem? (i := 17) rfl) rfl
theorem km_X8_78 : (Cond.methodLink RX8 78 yJ0_indexOf_0f7a4) ∈ TT := tt_4 (List.mem_of_getElem? (i := 19) rfl) rfl
theorem ki_J0_indexOf_0f7a4 : (Cond.instanceMethod yJ0_indexOf_0f7a4) ∈ TT := tt_4 (List.mem_of_getElem? (i := 20) rfl) rfl
theorem ks_J0_indexOf_0f7a4 : (Cond.selects RJ0 yJ0_indexOf_0f7a4 yJ0_indexOf_0f7a4) ∈ TT := tt_4 (List.mem_of_getElem? (i := 21) rfl) rfl
theorem kc_J0_indexOf_0f7a4 : (Cond.code yJ0_indexOf_0f7a4 prog_18_method_79_code 2 (Option.some Jvm.ClassFile.FieldType.int)) ∈ TT := tt_4 (List.mem_of_getElem? (i := 22) rfl) rfl
theorem km_J0_633 : (Cond.methodLink RJ0 633 yJ0_indexOf_7cf53) ∈ TT := tt_4 (List.mem_of_getElem? (i := 23) rfl) rfl
theorem ki_J0_indexOf_7cf53 : (Cond.instanceMethod yJ0_indexOf_7cf53) ∈ TT := tt_4 (List.mem_of_getElem? (i := 24) rfl) rfl
theorem ks_J0_indexOf_7cf53 : (Cond.selects RJ0 yJ0_indexOf_7cf53 yJ0_indexOf_7cf53) ∈ TT := tt_4 (List.mem_of_getElem? (i := 25) rfl) rfl
theorem kc_J0_indexOf_7cf53 : (Cond.code yJ0_indexOf_7cf53 prog_18_method_80_code 3 (Option.some Jvm.ClassFile.FieldType.int)) ∈ TT := tt_4 (List.mem_of_getElem? (i := 26) rfl) rfl
theorem km_J0_505 : (Cond.methodLink RJ0 505 yJ0_length_8abf5) ∈ TT := tt_4 (List.mem_of_getElem? (i := 27) rfl) rfl
theorem km_J0_637 : (Cond.methodLink RJ0 637 yJ1_indexOf_4cfef) ∈ TT := tt_4 (List.mem_of_getElem? (i := 28) rfl) rfl
theorem kt_J1_indexOf_4cfef : (Cond.static yJ1_indexOf_4cfef) ∈ TT := tt_4 (List.mem_of_getElem? (i := 29) rfl) rfl
theorem kc_J1_indexOf_4cfef : (Cond.code yJ1_indexOf_4cfef prog_19_method_22_code 4 (Option.some Jvm.ClassFile.FieldType.int)) ∈ TT := tt_4 (List.mem_of_getElem? (i := 30) rfl) rfl
theorem km_J1_88 : (Cond.methodLink RJ1 88 yJ1_canEncode_9a6ad) ∈ TT := tt_4 (List.mem_of_getElem? (i := 31) rfl) rfl
theorem kt_J1_canEncode_9a6ad : (Cond.static yJ1_canEncode_9a6ad) ∈ TT := tt_4 (List.mem_of_getElem? (i := 32) rfl) rfl
theorem kc_J1_canEncode_9a6ad : (Cond.code yJ1_canEncode_9a6ad prog_19_method_4_code 1 (Option.some Jvm.ClassFile.FieldType.boolean)) ∈ TT := tt_4 (List.mem_of_getElem? (i := 33) rfl) rfl
theorem km_J1_92 : (Cond.methodLink RJ1 92 yJ9_max_7cf53) ∈ TT := tt_4 (List.mem_of_getElem? (i := 34) rfl) rfl
theorem km_J1_38 : (Cond.methodLink RJ1 38 yJ9_min_7cf53) ∈ TT := tt_4 (List.mem_of_getElem? (i := 35) rfl) rfl
theorem km_J1_95 : (Cond.methodLink RJ1 95 yJ1_indexOfChar_4cfef) ∈ TT := tt_4 (List.mem_of_getElem? (i := 36) rfl) rfl
theorem kt_J1_indexOfChar_4cfef : (Cond.static yJ1_indexOfChar_4cfef) ∈ TT := tt_4 (List.mem_of_getElem? (i := 37) rfl) rfl
theorem kc_J1_indexOfChar_4cfef : (Cond.code yJ1_indexOfChar_4cfef prog_19_method_23_code 6 (Option.some Jvm.ClassFile.FieldType.int)) ∈ TT := tt_4 (List.mem_of_getElem? (i := 38) rfl) rfl
theorem km_J0_640 : (Cond.methodLink RJ0 640 yJ2_indexOf_4cfef) ∈ TT := tt_4 (List.mem_of_getElem? (i := 39) rfl) rfl
theorem kt_J2_indexOf_4cfef : (Cond.static yJ2_indexOf_4cfef) ∈ TT := tt_4 (List.mem_of_getElem? (i := 40) rfl) rfl
theorem kc_J2_indexOf_4cfef : (Cond.code yJ2_indexOf_4cfef prog_20_method_40_code 4 (Option.some Jvm.ClassFile.FieldType.int)) ∈ TT := tt_4 (List.mem_of_getElem? (i := 41) rfl) rfl
theorem km_J2_224 : (Cond.methodLink RJ2 224 yJ9_max_7cf53) ∈ TT := tt_4 (List.mem_of_getElem? (i := 42) rfl) rfl
theorem km_J2_183 : (Cond.methodLink RJ2 183 yJ9_min_7cf53) ∈ TT := tt_4 (List.mem_of_getElem? (i := 43) rfl) rfl
theorem kk_J2_227 : (Cond.constant RJ2 227 (65536 : Int32)) ∈ TT := tt_4 (List.mem_of_getElem? (i := 44) rfl) rfl
theorem km_J2_228 : (Cond.methodLink RJ2 228 yJ2_indexOfChar_4cfef) ∈ TT := tt_4 (List.mem_of_getElem? (i := 45) rfl) rfl
theorem kt_J2_indexOfChar_4cfef : (Cond.static yJ2_indexOfChar_4cfef) ∈ TT := tt_4 (List.mem_of_getElem? (i := 46) rfl) rfl
theorem kc_J2_indexOfChar_4cfef : (Cond.code yJ2_indexOfChar_4cfef prog_20_method_47_code 4 (Option.some Jvm.ClassFile.FieldType.int)) ∈ TT := tt_4 (List.mem_of_getElem? (i := 47) rfl) rfl
theorem km_J2_96 : (Cond.methodLink RJ2 96 yJ2_checkBoundsBeginEnd_d044e) ∈ TT := tt_4 (List.mem_of_getElem? (i := 48) rfl) rfl
theorem kt_J2_checkBoundsBeginEnd_d044e : (Cond.static yJ2_checkBoundsBeginEnd_d044e) ∈ TT := tt_4 (List.mem_of_getElem? (i := 49) rfl) rfl
theorem kc_J2_checkBoundsBeginEnd_d044e : (Cond.code yJ2_checkBoundsBeginEnd_d044e prog_20_method_93_code 3 (Option.none : Option Jvm.ClassFile.FieldType)) ∈ TT := tt_4 (List.mem_of_getElem? (i := 50) rfl) rfl
theorem km_J2_241 : (Cond.methodLink RJ2 241 yJ0_checkBoundsBeginEnd_23922) ∈ TT := tt_4 (List.mem_of_getElem? (i := 51) rfl) rfl
theorem kt_J0_checkBoundsBeginEnd_23922 : (Cond.static yJ0_checkBoundsBeginEnd_23922) ∈ TT := tt_4 (List.mem_of_getElem? (i := 52) rfl) rfl
theorem kc_J0_checkBoundsBeginEnd_23922 : (Cond.code yJ0_checkBoundsBeginEnd_23922 prog_18_method_158_code 3 (Option.none : Option Jvm.ClassFile.FieldType)) ∈ TT := tt_4 (List.mem_of_getElem? (i := 53) rfl) rfl
theorem km_J0_1062 : (Cond.methodLink RJ0 1062 yJ3_checkFromToIndex_8c36e) ∈ TT := tt_4 (List.mem_of_getElem? (i := 54) rfl) rfl
theorem kt_J3_checkFromToIndex_8c36e : (Cond.static yJ3_checkFromToIndex_8c36e) ∈ TT := tt_4 (List.mem_of_getElem? (i := 55) rfl) rfl
theorem kc_J3_checkFromToIndex_8c36e : (Cond.code yJ3_checkFromToIndex_8c36e prog_22_method_12_code 4 (Option.some Jvm.ClassFile.FieldType.int)) ∈ TT := tt_4 (List.mem_of_getElem? (i := 56) rfl) rfl
theorem km_J2_244 : (Cond.methodLink RJ2 244 yJ2_indexOfCharUnsafe_4cfef) ∈ TT := tt_4 (List.mem_of_getElem? (i := 57) rfl) rfl
theorem kt_J2_indexOfCharUnsafe_4cfef : (Cond.static yJ2_indexOfCharUnsafe_4cfef) ∈ TT := tt_4 (List.mem_of_getElem? (i := 58) rfl) rfl
theorem kc_J2_indexOfCharUnsafe_4cfef : (Cond.code yJ2_indexOfCharUnsafe_4cfef prog_20_method_48_code 5 (Option.some Jvm.ClassFile.FieldType.int)) ∈ TT := tt_4 (List.mem_of_getElem? (i := 59) rfl) rfl
theorem km_J2_232 : (Cond.methodLink RJ2 232 yJ2_indexOfSupplementary_4cfef) ∈ TT := tt_4 (List.mem_of_getElem? (i := 60) rfl) rfl
theorem kt_J2_indexOfSupplementary_4cfef : (Cond.static yJ2_indexOfSupplementary_4cfef) ∈ TT := tt_4 (List.mem_of_getElem? (i := 61) rfl) rfl
theorem kc_J2_indexOfSupplementary_4cfef : (Cond.code yJ2_indexOfSupplementary_4cfef prog_20_method_49_code 7 (Option.some Jvm.ClassFile.FieldType.int)) ∈ TT := tt_4 (List.mem_of_getElem? (i := 62) rfl) rfl
theorem km_J2_164 : (Cond.methodLink RJ2 164 yJ11_isValidCodePoint_9a6ad) ∈ TT := tt_4 (List.mem_of_getElem? (i := 63) rfl) rfl
theorem kt_J11_isValidCodePoint_9a6ad : (Cond.static yJ11_isValidCodePoint_9a6ad) ∈ TT := tt_4 (List.mem_of_getElem? (i := 64) rfl) rfl
theorem kc_J11_isValidCodePoint_9a6ad : (Cond.code yJ11_isValidCodePoint_9a6ad prog_15_method_11_code 2 (Option.some Jvm.ClassFile.FieldType.boolean)) ∈ TT := tt_4 (List.mem_of_getElem? (i := 65) rfl) rfl
theorem km_J2_157 : (Cond.methodLink RJ2 157 yJ11_highSurrogate_5068e) ∈ TT := tt_4 (List.mem_of_getElem? (i := 66) rfl) rfl
theorem kt_J11_highSurrogate_5068e : (Cond.static yJ11_highSurrogate_5068e) ∈ TT := tt_4 (List.mem_of_getElem? (i := 67) rfl) rfl
theorem kc_J11_highSurrogate_5068e : (Cond.code yJ11_highSurrogate_5068e prog_15_method_28_code 1 (Option.some Jvm.ClassFile.FieldType.char)) ∈ TT := tt_4 (List.mem_of_getElem? (i := 68) rfl) rfl
theorem kk_J11_110 : (Cond.constant RJ11 110 (55232 : Int32)) ∈ TT := tt_4 (List.mem_of_getElem? (i := 69) rfl) rfl
theorem km_J2_161 : (Cond.methodLink RJ2 161 yJ11_lowSurrogate_5068e) ∈ TT := tt_4 (List.mem_of_getElem? (i := 70) rfl) rfl
theorem kt_J11_lowSurrogate_5068e : (Cond.static yJ11_lowSurrogate_5068e) ∈ TT := tt_4 (List.mem_of_getElem? (i := 71) rfl) rfl
theorem kc_J11_lowSurrogate_5068e : (Cond.code yJ11_lowSurrogate_5068e prog_15_method_29_code 1 (Option.some Jvm.ClassFile.FieldType.char)) ∈ TT := tt_4 (List.mem_of_getElem? (i := 72) rfl) rfl
theorem kk_J11_76 : (Cond.constant RJ11 76 (56320 : Int32)) ∈ TT := tt_4 (List.mem_of_getElem? (i := 73) rfl) rfl
theorem km_X4_37 : (Cond.methodLink RX4 37 yX4_is) ∈ TT := tt_4 (List.mem_of_getElem? (i := 74) rfl) rfl
theorem ki_X4_is : (Cond.instanceMethod yX4_is) ∈ TT := tt_4 (List.mem_of_getElem? (i := 76) rfl) rfl
theorem kc_X4_is : (Cond.code yX4_is prog_6_method_3_code 2 (Option.some Jvm.ClassFile.FieldType.boolean)) ∈ TT := tt_4 (List.mem_of_getElem? (i := 77) rfl) rfl
theorem km_X4_41 : (Cond.methodLink RX4 41 yX4_readClause) ∈ TT := tt_4 (List.mem_of_getElem? (i := 78) rfl) rfl
theorem ki_X4_readClause : (Cond.instanceMethod yX4_readClause) ∈ TT := tt_4 (List.mem_of_getElem? (i := 80) rfl) rfl
theorem kc_X4_readClause : (Cond.code yX4_readClause prog_6_method_6_code 2 (Option.none : Option Jvm.ClassFile.FieldType)) ∈ TT := tt_4 (List.mem_of_getElem? (i := 81) rfl) rfl
theorem km_X4_53 : (Cond.methodLink RX4 53 yX4_fail) ∈ TT := tt_4 (List.mem_of_getElem? (i := 83) rfl) rfl
theorem ki_X4_fail : (Cond.instanceMethod yX4_fail) ∈ TT := tt_4 (List.mem_of_getElem? (i := 85) rfl) rfl
theorem kc_X4_fail : (Cond.code yX4_fail prog_6_method_4_code 2 (Option.none : Option Jvm.ClassFile.FieldType)) ∈ TT := tt_4 (List.mem_of_getElem? (i := 86) rfl) rfl
theorem km_X4_64 : (Cond.methodLink RX4 64 yX6_has) ∈ TT := tt_4 (List.mem_of_getElem? (i := 88) rfl) rfl
theorem km_X4_70 : (Cond.methodLink RX4 70 yX6_begin) ∈ TT := tt_4 (List.mem_of_getElem? (i := 89) rfl) rfl
theorem ki_X6_begin : (Cond.instanceMethod yX6_begin) ∈ TT := tt_4 (List.mem_of_getElem? (i := 90) rfl) rfl
theorem ks_X6_begin : (Cond.selects RX6 yX6_begin yX6_begin) ∈ TT := tt_4 (List.mem_of_getElem? (i := 91) rfl) rfl
theorem kc_X6_begin : (Cond.code yX6_begin prog_8_method_4_code 2 (Option.none : Option Jvm.ClassFile.FieldType)) ∈ TT := tt_4 (List.mem_of_getElem? (i := 92) rfl) rfl
theorem km_X4_50 : (Cond.methodLink RX4 50 yX8_next) ∈ TT := tt_4 (List.mem_of_getElem? (i := 93) rfl) rfl
theorem km_X4_76 : (Cond.methodLink RX4 76 yX4_readSum) ∈ TT := tt_4 (List.mem_of_getElem? (i := 94) rfl) rfl
theorem ki_X4_readSum : (Cond.instanceMethod yX4_readSum) ∈ TT := tt_4 (List.mem_of_getElem? (i := 96) rfl) rfl
theorem kc_X4_readSum : (Cond.code yX4_readSum prog_6_method_9_code 4 (Option.none : Option Jvm.ClassFile.FieldType)) ∈ TT := tt_4 (List.mem_of_getElem? (i := 97) rfl) rfl
theorem km_X4_99 : (Cond.methodLink RX4 99 yX4_readProduct) ∈ TT := tt_4 (List.mem_of_getElem? (i := 98) rfl) rfl
theorem ki_X4_readProduct : (Cond.instanceMethod yX4_readProduct) ∈ TT := tt_4 (List.mem_of_getElem? (i := 100) rfl) rfl
theorem kc_X4_readProduct : (Cond.code yX4_readProduct prog_6_method_10_code 4 (Option.none : Option Jvm.ClassFile.FieldType)) ∈ TT := tt_4 (List.mem_of_getElem? (i := 101) rfl) rfl
theorem km_X4_106 : (Cond.methodLink RX4 106 yX4_readPart) ∈ TT := tt_4 (List.mem_of_getElem? (i := 102) rfl) rfl
theorem ki_X4_readPart : (Cond.instanceMethod yX4_readPart) ∈ TT := tt_4 (List.mem_of_getElem? (i := 104) rfl) rfl
theorem kc_X4_readPart : (Cond.code yX4_readPart prog_6_method_11_code 2 (Option.none : Option Jvm.ClassFile.FieldType)) ∈ TT := tt_4 (List.mem_of_getElem? (i := 105) rfl) rfl
theorem km_X4_109 : (Cond.methodLink RX4 109 yX4_readNested) ∈ TT := tt_4 (List.mem_of_getElem? (i := 106) rfl) rfl
theorem ki_X4_readNested : (Cond.instanceMethod yX4_readNested) ∈ TT := tt_4 (List.mem_of_getElem? (i := 108) rfl) rfl
theorem kc_X4_readNested : (Cond.code yX4_readNested prog_6_method_12_code 3 (Option.none : Option Jvm.ClassFile.FieldType)) ∈ TT := tt_4 (List.mem_of_getElem? (i := 109) rfl) rfl
theorem km_X4_85 : (Cond.methodLink RX4 85 yX4_expect) ∈ TT := tt_4 (List.mem_of_getElem? (i := 110) rfl) rfl
theorem ki_X4_expect : (Cond.instanceMethod yX4_expect) ∈ TT := tt_4 (List.mem_of_getElem? (i := 112) rfl) rfl
theorem kc_X4_expect : (Cond.code yX4_expect prog_6_method_5_code 2 (Option.none : Option Jvm.ClassFile.FieldType)) ∈ TT := tt_4 (List.mem_of_getElem? (i := 113) rfl) rfl
theorem km_X4_102 : (Cond.methodLink RX4 102 yX6_emit) ∈ TT := tt_4 (List.mem_of_getElem? (i := 114) rfl) rfl
theorem ki_X6_emit : (Cond.instanceMethod yX6_emit) ∈ TT := tt_4 (List.mem_of_getElem? (i := 115) rfl) rfl
theorem ks_X6_emit : (Cond.selects RX6 yX6_emit yX6_emit) ∈ TT := tt_4 (List.mem_of_getElem? (i := 116) rfl) rfl
theorem kc_X6_emit : (Cond.code yX6_emit prog_8_method_7_code 3 (Option.some Jvm.ClassFile.FieldType.int)) ∈ TT := tt_4 (List.mem_of_getElem? (i := 117) rfl) rfl
theorem km_X4_115 : (Cond.methodLink RX4 115 yX4_readChoice) ∈ TT := tt_4 (List.mem_of_getElem? (i := 118) rfl) rfl
theorem ki_X4_readChoice : (Cond.instanceMethod yX4_readChoice) ∈ TT := tt_4 (List.mem_of_getElem? (i := 120) rfl) rfl
theorem kc_X4_readChoice : (Cond.code yX4_readChoice prog_6_method_13_code 4 (Option.none : Option Jvm.ClassFile.FieldType)) ∈ TT := tt_4 (List.mem_of_getElem? (i := 121) rfl) rfl
theorem km_X4_118 : (Cond.methodLink RX4 118 yX4_readEither) ∈ TT := tt_4 (List.mem_of_getElem? (i := 122) rfl) rfl
theorem ki_X4_readEither : (Cond.instanceMethod yX4_readEither) ∈ TT := tt_4 (List.mem_of_getElem? (i := 124) rfl) rfl
theorem kc_X4_readEither : (Cond.code yX4_readEither prog_6_method_14_code 3 (Option.none : Option Jvm.ClassFile.FieldType)) ∈ TT := tt_4 (List.mem_of_getElem? (i := 125) rfl) rfl
theorem km_X4_124 : (Cond.methodLink RX4 124 yX4_readBoth) ∈ TT := tt_4 (List.mem_of_getElem? (i := 126) rfl) rfl
theorem ki_X4_readBoth : (Cond.instanceMethod yX4_readBoth) ∈ TT := tt_4 (List.mem_of_getElem? (i := 128) rfl) rfl
theorem kc_X4_readBoth : (Cond.code yX4_readBoth prog_6_method_15_code 3 (Option.none : Option Jvm.ClassFile.FieldType)) ∈ TT := tt_4 (List.mem_of_getElem? (i := 129) rfl) rfl
theorem km_X4_127 : (Cond.methodLink RX4 127 yX4_readAsk) ∈ TT := tt_4 (List.mem_of_getElem? (i := 130) rfl) rfl
theorem ki_X4_readAsk : (Cond.instanceMethod yX4_readAsk) ∈ TT := tt_4 (List.mem_of_getElem? (i := 132) rfl) rfl
theorem kc_X4_readAsk : (Cond.code yX4_readAsk prog_6_method_16_code 3 (Option.none : Option Jvm.ClassFile.FieldType)) ∈ TT := tt_4 (List.mem_of_getElem? (i := 133) rfl) rfl
theorem km_X4_130 : (Cond.methodLink RX4 130 yX4_isComparison) ∈ TT := tt_4 (List.mem_of_getElem? (i := 134) rfl) rfl
theorem kt_X4_isComparison : (Cond.static yX4_isComparison) ∈ TT := tt_4 (List.mem_of_getElem? (i := 135) rfl) rfl
theorem kc_X4_isComparison : (Cond.code yX4_isComparison prog_6_method_17_code 1 (Option.some Jvm.ClassFile.FieldType.boolean)) ∈ TT := tt_4 (List.mem_of_getElem? (i := 136) rfl) rfl
theorem km_X4_121 : (Cond.methodLink RX4 121 yX6_leadHere) ∈ TT := tt_4 (List.mem_of_getElem? (i := 137) rfl) rfl
theorem ki_X6_leadHere : (Cond.instanceMethod yX6_leadHere) ∈ TT := tt_4 (List.mem_of_getElem? (i := 138) rfl) rfl
theorem ks_X6_leadHere : (Cond.selects RX6 yX6_leadHere yX6_leadHere) ∈ TT := tt_4 (List.mem_of_getElem? (i := 139) rfl) rfl
theorem kc_X6_leadHere : (Cond.code yX6_leadHere prog_8_method_8_code 2 (Option.none : Option Jvm.ClassFile.FieldType)) ∈ TT := tt_4 (List.mem_of_getElem? (i := 140) rfl) rfl
theorem km_X4_112 : (Cond.methodLink RX4 112 yX4_isOfLaw) ∈ TT := tt_4 (List.mem_of_getElem? (i := 141) rfl) rfl
theorem ki_X4_isOfLaw : (Cond.instanceMethod yX4_isOfLaw) ∈ TT := tt_4 (List.mem_of_getElem? (i := 143) rfl) rfl
theorem kc_X4_isOfLaw : (Cond.code yX4_isOfLaw prog_6_method_18_code 2 (Option.some Jvm.ClassFile.FieldType.boolean)) ∈ TT := tt_4 (List.mem_of_getElem? (i := 144) rfl) rfl
theorem km_X4_79 : (Cond.methodLink RX4 79 yX6_endLaw) ∈ TT := tt_4 (List.mem_of_getElem? (i := 145) rfl) rfl
theorem ki_X6_endLaw : (Cond.instanceMethod yX6_endLaw) ∈ TT := tt_4 (List.mem_of_getElem? (i := 146) rfl) rfl
theorem ks_X6_endLaw : (Cond.selects RX6 yX6_endLaw yX6_endLaw) ∈ TT := tt_4 (List.mem_of_getElem? (i := 147) rfl) rfl
theorem kc_X6_endLaw : (Cond.code yX6_endLaw prog_8_method_5_code 2 (Option.none : Option Jvm.ClassFile.FieldType)) ∈ TT := tt_4 (List.mem_of_getElem? (i := 148) rfl) rfl
theorem km_X4_82 : (Cond.methodLink RX4 82 yX4_readDeed) ∈ TT := tt_4 (List.mem_of_getElem? (i := 149) rfl) rfl
theorem ki_X4_readDeed : (Cond.instanceMethod yX4_readDeed) ∈ TT := tt_4 (List.mem_of_getElem? (i := 151) rfl) rfl
theorem kc_X4_readDeed : (Cond.code yX4_readDeed prog_6_method_7_code 2 (Option.none : Option Jvm.ClassFile.FieldType)) ∈ TT := tt_4 (List.mem_of_getElem? (i := 152) rfl) rfl
theorem km_X4_88 : (Cond.methodLink RX4 88 yX4_readNumber) ∈ TT := tt_4 (List.mem_of_getElem? (i := 153) rfl) rfl
theorem ki_X4_readNumber : (Cond.instanceMethod yX4_readNumber) ∈ TT := tt_4 (List.mem_of_getElem? (i := 155) rfl) rfl
theorem kc_X4_readNumber : (Cond.code yX4_readNumber prog_6_method_8_code 4 (Option.none : Option Jvm.ClassFile.FieldType)) ∈ TT := tt_4 (List.mem_of_getElem? (i := 156) rfl) rfl
theorem km_X4_95 : (Cond.methodLink RX4 95 yX6_tellNumber) ∈ TT := tt_4 (List.mem_of_getElem? (i := 157) rfl) rfl
theorem ki_X6_tellNumber : (Cond.instanceMethod yX6_tellNumber) ∈ TT := tt_4 (List.mem_of_getElem? (i := 158) rfl) rfl
theorem ks_X6_tellNumber : (Cond.selects RX6 yX6_tellNumber yX6_tellNumber) ∈ TT := tt_4 (List.mem_of_getElem? (i := 159) rfl) rfl
theorem kc_X6_tellNumber : (Cond.code yX6_tellNumber prog_8_method_6_code 4 (Option.none : Option Jvm.ClassFile.FieldType)) ∈ TT := tt_4 (List.mem_of_getElem? (i := 160) rfl) rfl
theorem km_X11_189 : (Cond.methodLink RX11 189 yX11_script) ∈ TT := tt_4 (List.mem_of_getElem? (i := 161) rfl) rfl
theorem ki_X11_script : (Cond.instanceMethod yX11_script) ∈ TT := tt_4 (List.mem_of_getElem? (i := 163) rfl) rfl
theorem kc_X11_script : (Cond.code yX11_script prog_1_method_40_code 3 (Option.some (Jvm.ClassFile.FieldType.object "BowsOwed$Script"))) ∈ TT := tt_4 (List.mem_of_getElem? (i := 164) rfl) rfl
theorem km_X11_196 : (Cond.methodLink RX11 196 yX6_copyFrom) ∈ TT := tt_4 (List.mem_of_getElem? (i := 165) rfl) rfl
theorem ki_X6_copyFrom : (Cond.instanceMethod yX6_copyFrom) ∈ TT := tt_4 (List.mem_of_getElem? (i := 166) rfl) rfl
theorem ks_X6_copyFrom : (Cond.selects RX6 yX6_copyFrom yX6_copyFrom) ∈ TT := tt_4 (List.mem_of_getElem? (i := 167) rfl) rfl
theorem kc_X6_copyFrom : (Cond.code yX6_copyFrom prog_8_method_3_code 2 (Option.none : Option Jvm.ClassFile.FieldType)) ∈ TT := tt_4 (List.mem_of_getElem? (i := 168) rfl) rfl
theorem km_X6_34 : (Cond.methodLink RX6 34 ⟨"java/lang/System", "arraycopy", "(Ljava/lang/Object;ILjava/lang/Object;II)V"⟩) ∈ TT := tt_4 (List.mem_of_getElem? (i := 169) rfl) rfl
theorem kr_4_170 : (Cond.arrayClass Jvm.ClassFile.FieldType.byte) ∈ TT := tt_4 (List.mem_of_getElem? (i := 170) rfl) rfl
theorem km_L_63 : (Cond.methodLink RL 63 yX11_fault) ∈ TT := tt_4 (List.mem_of_getElem? (i := 171) rfl) rfl
theorem ki_X11_fault : (Cond.instanceMethod yX11_fault) ∈ TT := tt_4 (List.mem_of_getElem? (i := 172) rfl) rfl
theorem ks_X11_fault : (Cond.selects RX11 yX11_fault yX11_fault) ∈ TT := tt_4 (List.mem_of_getElem? (i := 173) rfl) rfl
theorem kc_X11_fault : (Cond.code yX11_fault prog_1_method_13_code 2 (Option.some Jvm.ClassFile.FieldType.int)) ∈ TT := tt_4 (List.mem_of_getElem? (i := 174) rfl) rfl
theorem km_L_67 : (Cond.methodLink RL 67 yX11_by) ∈ TT := tt_4 (List.mem_of_getElem? (i := 175) rfl) rfl
theorem ki_X11_by : (Cond.instanceMethod yX11_by) ∈ TT := tt_4 (List.mem_of_getElem? (i := 176) rfl) rfl
theorem ks_X11_by : (Cond.selects RX11 yX11_by yX11_by) ∈ TT := tt_4 (List.mem_of_getElem? (i := 177) rfl) rfl
theorem kc_X11_by : (Cond.code yX11_by prog_1_method_14_code 2 (Option.some Jvm.ClassFile.FieldType.boolean)) ∈ TT := tt_4 (List.mem_of_getElem? (i := 178) rfl) rfl
theorem km_X11_206 : (Cond.methodLink RX11 206 yX11_isText) ∈ TT := tt_4 (List.mem_of_getElem? (i := 179) rfl) rfl
theorem ki_X11_isText : (Cond.instanceMethod yX11_isText) ∈ TT := tt_4 (List.mem_of_getElem? (i := 181) rfl) rfl
theorem kc_X11_isText : (Cond.code yX11_isText prog_1_method_39_code 2 (Option.some Jvm.ClassFile.FieldType.boolean)) ∈ TT := tt_4 (List.mem_of_getElem? (i := 182) rfl) rfl
theorem km_X11_216 : (Cond.methodLink RX11 216 yX1_rule) ∈ TT := tt_4 (List.mem_of_getElem? (i := 183) rfl) rfl
theorem ki_X1_rule : (Cond.instanceMethod yX1_rule) ∈ TT := tt_4 (List.mem_of_getElem? (i := 184) rfl) rfl
theorem ks_X1_rule : (Cond.selects RX1 yX1_rule yX1_rule) ∈ TT := tt_4 (List.mem_of_getElem? (i := 185) rfl) rfl
theorem kc_X1_rule : (Cond.code yX1_rule prog_3_method_2_code 2 (Option.none : Option Jvm.ClassFile.FieldType)) ∈ TT := tt_4 (List.mem_of_getElem? (i := 186) rfl) rfl
theorem km_L_72 : (Cond.methodLink RL 72 yX11_played) ∈ TT := tt_4 (List.mem_of_getElem? (i := 187) rfl) rfl
theorem ki_X11_played : (Cond.instanceMethod yX11_played) ∈ TT := tt_4 (List.mem_of_getElem? (i := 188) rfl) rfl
theorem ks_X11_played : (Cond.selects RX11 yX11_played yX11_played) ∈ TT := tt_4 (List.mem_of_getElem? (i := 189) rfl) rfl
theorem kc_X11_played : (Cond.code yX11_played prog_1_method_15_code 4 (Option.some Jvm.ClassFile.FieldType.int)) ∈ TT := tt_4 (List.mem_of_getElem? (i := 190) rfl) rfl
theorem km_X11_224 : (Cond.methodLink RX11 224 yX6_deed) ∈ TT := tt_4 (List.mem_of_getElem? (i := 191) rfl) rfl
theorem ki_X6_deed : (Cond.instanceMethod yX6_deed) ∈ TT := tt_4 (List.mem_of_getElem? (i := 192) rfl) rfl
theorem ks_X6_deed : (Cond.selects RX6 yX6_deed yX6_deed) ∈ TT := tt_4 (List.mem_of_getElem? (i := 193) rfl) rfl
theorem kc_X6_deed : (Cond.code yX6_deed prog_8_method_9_code 2 (Option.some Jvm.ClassFile.FieldType.int)) ∈ TT := tt_4 (List.mem_of_getElem? (i := 194) rfl) rfl
theorem km_X11_227 : (Cond.methodLink RX11 227 yX11_isLaw) ∈ TT := tt_4 (List.mem_of_getElem? (i := 195) rfl) rfl
theorem km_X11_230 : (Cond.methodLink RX11 230 yX11_play) ∈ TT := tt_4 (List.mem_of_getElem? (i := 196) rfl) rfl
theorem ki_X11_play : (Cond.instanceMethod yX11_play) ∈ TT := tt_4 (List.mem_of_getElem? (i := 198) rfl) rfl
theorem kc_X11_play : (Cond.code yX11_play prog_1_method_43_code 7 (Option.some Jvm.ClassFile.FieldType.boolean)) ∈ TT := tt_4 (List.mem_of_getElem? (i := 199) rfl) rfl
theorem km_X11_339 : (Cond.methodLink RX11 339 yX6_number) ∈ TT := tt_4 (List.mem_of_getElem? (i := 200) rfl) rfl
theorem ki_X6_number : (Cond.instanceMethod yX6_number) ∈ TT := tt_4 (List.mem_of_getElem? (i := 201) rfl) rfl
theorem ks_X6_number : (Cond.selects RX6 yX6_number yX6_number) ∈ TT := tt_4 (List.mem_of_getElem? (i := 202) rfl) rfl
theorem kc_X6_number : (Cond.code yX6_number prog_8_method_10_code 4 (Option.some Jvm.ClassFile.FieldType.int)) ∈ TT := tt_4 (List.mem_of_getElem? (i := 203) rfl) rfl
theorem km_X11_342 : (Cond.methodLink RX11 342 yX11_person) ∈ TT := tt_4 (List.mem_of_getElem? (i := 204) rfl) rfl
theorem km_X11_345 : (Cond.methodLink RX11 345 yX11_bow) ∈ TT := tt_4 (List.mem_of_getElem? (i := 205) rfl) rfl
theorem km_X11_348 : (Cond.methodLink RX11 348 yX11_owe) ∈ TT := tt_4 (List.mem_of_getElem? (i := 206) rfl) rfl
theorem km_X11_351 : (Cond.methodLink RX11 351 yX11_walk) ∈ TT := tt_4 (List.mem_of_getElem? (i := 207) rfl) rfl
theorem km_X11_354 : (Cond.methodLink RX11 354 yX11_clear) ∈ TT := tt_4 (List.mem_of_getElem? (i := 208) rfl) rfl
theorem km_X11_357 : (Cond.methodLink RX11 357 yX11_feast) ∈ TT := tt_4 (List.mem_of_getElem? (i := 209) rfl) rfl
theorem km_X11_360 : (Cond.methodLink RX11 360 yX11_hour) ∈ TT := tt_4 (List.mem_of_getElem? (i := 210) rfl) rfl
theorem km_L_76 : (Cond.methodLink RL 76 yX11_undo) ∈ TT := tt_4 (List.mem_of_getElem? (i := 211) rfl) rfl
theorem ki_X11_undo : (Cond.instanceMethod yX11_undo) ∈ TT := tt_4 (List.mem_of_getElem? (i := 212) rfl) rfl
theorem ks_X11_undo : (Cond.selects RX11 yX11_undo yX11_undo) ∈ TT := tt_4 (List.mem_of_getElem? (i := 213) rfl) rfl
theorem kc_X11_undo : (Cond.code yX11_undo prog_1_method_16_code 1 (Option.some Jvm.ClassFile.FieldType.int)) ∈ TT := tt_4 (List.mem_of_getElem? (i := 214) rfl) rfl
theorem km_X11_234 : (Cond.methodLink RX11 234 yX10_takeBack) ∈ TT := tt_4 (List.mem_of_getElem? (i := 215) rfl) rfl
theorem ki_X10_takeBack : (Cond.instanceMethod yX10_takeBack) ∈ TT := tt_4 (List.mem_of_getElem? (i := 216) rfl) rfl
theorem ks_X10_takeBack : (Cond.selects RX10 yX10_takeBack yX10_takeBack) ∈ TT := tt_4 (List.mem_of_getElem? (i := 217) rfl) rfl
theorem kc_X10_takeBack : (Cond.code yX10_takeBack prog_12_method_5_code 5 (Option.some Jvm.ClassFile.FieldType.boolean)) ∈ TT := tt_4 (List.mem_of_getElem? (i := 218) rfl) rfl
theorem km_X10_60 : (Cond.methodLink RX10 60 yX7_enter) ∈ TT := tt_4 (List.mem_of_getElem? (i := 219) rfl) rfl
theorem km_L_80 : (Cond.methodLink RL 80 yX11_of) ∈ TT := tt_4 (List.mem_of_getElem? (i := 220) rfl) rfl
theorem ki_X11_of : (Cond.instanceMethod yX11_of) ∈ TT := tt_4 (List.mem_of_getElem? (i := 221) rfl) rfl
theorem ks_X11_of : (Cond.selects RX11 yX11_of yX11_of) ∈ TT := tt_4 (List.mem_of_getElem? (i := 222) rfl) rfl
theorem kc_X11_of : (Cond.code yX11_of prog_1_method_17_code 4 (Option.some Jvm.ClassFile.FieldType.int)) ∈ TT := tt_4 (List.mem_of_getElem? (i := 223) rfl) rfl
theorem km_X11_241 : (Cond.methodLink RX11 241 yX7_has) ∈ TT := tt_4 (List.mem_of_getElem? (i := 224) rfl) rfl
theorem km_X11_244 : (Cond.methodLink RX11 244 yX3_ageOf) ∈ TT := tt_4 (List.mem_of_getElem? (i := 225) rfl) rfl
theorem km_X11_247 : (Cond.methodLink RX11 247 yX3_backOf) ∈ TT := tt_4 (List.mem_of_getElem? (i := 226) rfl) rfl
theorem km_X11_250 : (Cond.methodLink RX11 250 yX7_indoorsOf) ∈ TT := tt_4 (List.mem_of_getElem? (i := 227) rfl) rfl
theorem ki_X7_indoorsOf : (Cond.instanceMethod yX7_indoorsOf) ∈ TT := tt_4 (List.mem_of_getElem? (i := 228) rfl) rfl
theorem ks_X7_indoorsOf : (Cond.selects RX7 yX7_indoorsOf yX7_indoorsOf) ∈ TT := tt_4 (List.mem_of_getElem? (i := 229) rfl) rfl
theorem kc_X7_indoorsOf : (Cond.code yX7_indoorsOf prog_9_method_9_code 2 (Option.some Jvm.ClassFile.FieldType.int)) ∈ TT := tt_4 (List.mem_of_getElem? (i := 230) rfl) rfl
theorem km_X11_253 : (Cond.methodLink RX11 253 yX7_owesTogether) ∈ TT := tt_4 (List.mem_of_getElem? (i := 231) rfl) rfl
theorem km_X11_256 : (Cond.methodLink RX11 256 yX7_owedTogether) ∈ TT := tt_4 (List.mem_of_getElem? (i := 232) rfl) rfl
theorem ki_X7_owedTogether : (Cond.instanceMethod yX7_owedTogether) ∈ TT := tt_4 (List.mem_of_getElem? (i := 233) rfl) rfl
theorem ks_X7_owedTogether : (Cond.selects RX7 yX7_owedTogether yX7_owedTogether) ∈ TT := tt_4 (List.mem_of_getElem? (i := 234) rfl) rfl
theorem kc_X7_owedTogether : (Cond.code yX7_owedTogether prog_9_method_13_code 4 (Option.some Jvm.ClassFile.FieldType.int)) ∈ TT := tt_4 (List.mem_of_getElem? (i := 235) rfl) rfl
theorem km_X11_259 : (Cond.methodLink RX11 259 yX1_ruinOf) ∈ TT := tt_4 (List.mem_of_getElem? (i := 236) rfl) rfl
theorem km_L_84 : (Cond.methodLink RL 84 yX11_two) ∈ TT := tt_4 (List.mem_of_getElem? (i := 237) rfl) rfl
theorem ki_X11_two : (Cond.instanceMethod yX11_two) ∈ TT := tt_4 (List.mem_of_getElem? (i := 238) rfl) rfl
theorem ks_X11_two : (Cond.selects RX11 yX11_two yX11_two) ∈ TT := tt_4 (List.mem_of_getElem? (i := 239) rfl) rfl
theorem kc_X11_two : (Cond.code yX11_two prog_1_method_18_code 5 (Option.some Jvm.ClassFile.FieldType.int)) ∈ TT := tt_5 (List.mem_of_getElem? (i := 0) rfl) rfl
theorem km_X11_262 : (Cond.methodLink RX11 262 yX1_sizeOf) ∈ TT := tt_5 (List.mem_of_getElem? (i := 1) rfl) rfl
theorem km_X11_265 : (Cond.methodLink RX11 265 yX1_lateOf) ∈ TT := tt_5 (List.mem_of_getElem? (i := 2) rfl) rfl
theorem km_X11_268 : (Cond.methodLink RX11 268 yX7_meet) ∈ TT := tt_5 (List.mem_of_getElem? (i := 3) rfl) rfl
theorem km_L_88 : (Cond.methodLink RL 88 yX11_more) ∈ TT := tt_5 (List.mem_of_getElem? (i := 4) rfl) rfl
theorem ki_X11_more : (Cond.instanceMethod yX11_more) ∈ TT := tt_5 (List.mem_of_getElem? (i := 5) rfl) rfl
theorem ks_X11_more : (Cond.selects RX11 yX11_more yX11_more) ∈ TT := tt_5 (List.mem_of_getElem? (i := 6) rfl) rfl
theorem kc_X11_more : (Cond.code yX11_more prog_1_method_19_code 4 (Option.some Jvm.ClassFile.FieldType.int)) ∈ TT := tt_5 (List.mem_of_getElem? (i := 7) rfl) rfl
theorem km_X11_271 : (Cond.methodLink RX11 271 yX1_moreOf) ∈ TT := tt_5 (List.mem_of_getElem? (i := 8) rfl) rfl
theorem km_L_92 : (Cond.methodLink RL 92 yX11_book) ∈ TT := tt_5 (List.mem_of_getElem? (i := 9) rfl) rfl
theorem ki_X11_book : (Cond.instanceMethod yX11_book) ∈ TT := tt_5 (List.mem_of_getElem? (i := 10) rfl) rfl
theorem ks_X11_book : (Cond.selects RX11 yX11_book yX11_book) ∈ TT := tt_5 (List.mem_of_getElem? (i := 11) rfl) rfl
theorem kc_X11_book : (Cond.code yX11_book prog_1_method_20_code 3 (Option.some Jvm.ClassFile.FieldType.int)) ∈ TT := tt_5 (List.mem_of_getElem? (i := 12) rfl) rfl
theorem km_X11_277 : (Cond.methodLink RX11 277 yX7_booked) ∈ TT := tt_5 (List.mem_of_getElem? (i := 13) rfl) rfl
theorem ki_X7_booked : (Cond.instanceMethod yX7_booked) ∈ TT := tt_5 (List.mem_of_getElem? (i := 14) rfl) rfl
theorem ks_X7_booked : (Cond.selects RX7 yX7_booked yX7_booked) ∈ TT := tt_5 (List.mem_of_getElem? (i := 15) rfl) rfl
theorem kc_X7_booked : (Cond.code yX7_booked prog_9_method_24_code 4 (Option.some Jvm.ClassFile.FieldType.int)) ∈ TT := tt_5 (List.mem_of_getElem? (i := 16) rfl) rfl
theorem km_L_96 : (Cond.methodLink RL 96 yX11_foretold) ∈ TT := tt_5 (List.mem_of_getElem? (i := 17) rfl) rfl
theorem ki_X11_foretold : (Cond.instanceMethod yX11_foretold) ∈ TT := tt_5 (List.mem_of_getElem? (i := 18) rfl) rfl
theorem ks_X11_foretold : (Cond.selects RX11 yX11_foretold yX11_foretold) ∈ TT := tt_5 (List.mem_of_getElem? (i := 19) rfl) rfl
theorem kc_X11_foretold : (Cond.code yX11_foretold prog_1_method_21_code 7 (Option.some Jvm.ClassFile.FieldType.int)) ∈ TT := tt_5 (List.mem_of_getElem? (i := 20) rfl) rfl
theorem km_X11_280 : (Cond.methodLink RX11 280 yX11_foresee) ∈ TT := tt_5 (List.mem_of_getElem? (i := 21) rfl) rfl
theorem ki_X11_foresee : (Cond.instanceMethod yX11_foresee) ∈ TT := tt_5 (List.mem_of_getElem? (i := 23) rfl) rfl
theorem kc_X11_foresee : (Cond.code yX11_foresee prog_1_method_42_code 7 (Option.some Jvm.ClassFile.FieldType.int)) ∈ TT := tt_5 (List.mem_of_getElem? (i := 24) rfl) rfl
theorem km_X11_337 : (Cond.methodLink RX11 337 yX7_copyFrom) ∈ TT := tt_5 (List.mem_of_getElem? (i := 25) rfl) rfl
theorem km_L_100 : (Cond.methodLink RL 100 yX11_indoors) ∈ TT := tt_5 (List.mem_of_getElem? (i := 26) rfl) rfl
theorem ki_X11_indoors : (Cond.instanceMethod yX11_indoors) ∈ TT := tt_5 (List.mem_of_getElem? (i := 27) rfl) rfl
theorem ks_X11_indoors : (Cond.selects RX11 yX11_indoors yX11_indoors) ∈ TT := tt_5 (List.mem_of_getElem? (i := 28) rfl) rfl
theorem kc_X11_indoors : (Cond.code yX11_indoors prog_1_method_22_code 3 (Option.some Jvm.ClassFile.FieldType.int)) ∈ TT := tt_5 (List.mem_of_getElem? (i := 29) rfl) rfl
theorem km_L_104 : (Cond.methodLink RL 104 yX11_first) ∈ TT := tt_5 (List.mem_of_getElem? (i := 30) rfl) rfl
theorem ki_X11_first : (Cond.instanceMethod yX11_first) ∈ TT := tt_5 (List.mem_of_getElem? (i := 31) rfl) rfl
theorem ks_X11_first : (Cond.selects RX11 yX11_first yX11_first) ∈ TT := tt_5 (List.mem_of_getElem? (i := 32) rfl) rfl
theorem kc_X11_first : (Cond.code yX11_first prog_1_method_23_code 2 (Option.some Jvm.ClassFile.FieldType.int)) ∈ TT := tt_5 (List.mem_of_getElem? (i := 33) rfl) rfl
theorem km_L_108 : (Cond.methodLink RL 108 yX11_whose) ∈ TT := tt_5 (List.mem_of_getElem? (i := 34) rfl) rfl
theorem ki_X11_whose : (Cond.instanceMethod yX11_whose) ∈ TT := tt_5 (List.mem_of_getElem? (i := 35) rfl) rfl
theorem ks_X11_whose : (Cond.selects RX11 yX11_whose yX11_whose) ∈ TT := tt_5 (List.mem_of_getElem? (i := 36) rfl) rfl
theorem kc_X11_whose : (Cond.code yX11_whose prog_1_method_24_code 6 (Option.some Jvm.ClassFile.FieldType.int)) ∈ TT := tt_5 (List.mem_of_getElem? (i := 37) rfl) rfl
theorem kk_X11_284 : (Cond.constant RX11 284 (2147483647 : Int32)) ∈ TT := tt_5 (List.mem_of_getElem? (i := 38) rfl) rfl
theorem km_L_112 : (Cond.methodLink RL 112 yX11_route) ∈ TT := tt_5 (List.mem_of_getElem? (i := 39) rfl) rfl
theorem ki_X11_route : (Cond.instanceMethod yX11_route) ∈ TT := tt_5 (List.mem_of_getElem? (i := 40) rfl) rfl
theorem ks_X11_route : (Cond.selects RX11 yX11_route yX11_route) ∈ TT := tt_5 (List.mem_of_getElem? (i := 41) rfl) rfl
theorem kc_X11_route : (Cond.code yX11_route prog_1_method_25_code 3 (Option.some Jvm.ClassFile.FieldType.int)) ∈ TT := tt_5 (List.mem_of_getElem? (i := 42) rfl) rfl
theorem km_X11_285 : (Cond.methodLink RX11 285 yX0_find) ∈ TT := tt_5 (List.mem_of_getElem? (i := 43) rfl) rfl
theorem ki_X0_find : (Cond.instanceMethod yX0_find) ∈ TT := tt_5 (List.mem_of_getElem? (i := 44) rfl) rfl
theorem ks_X0_find : (Cond.selects RX0 yX0_find yX0_find) ∈ TT := tt_5 (List.mem_of_getElem? (i := 45) rfl) rfl
theorem kc_X0_find : (Cond.code yX0_find prog_2_method_2_code 5 (Option.some Jvm.ClassFile.FieldType.boolean)) ∈ TT := tt_5 (List.mem_of_getElem? (i := 46) rfl) rfl
theorem km_X0_9 : (Cond.methodLink RX0 9 yX0_look) ∈ TT := tt_5 (List.mem_of_getElem? (i := 47) rfl) rfl
theorem ki_X0_look : (Cond.instanceMethod yX0_look) ∈ TT := tt_5 (List.mem_of_getElem? (i := 49) rfl) rfl
theorem kc_X0_look : (Cond.code yX0_look prog_2_method_4_code 5 (Option.none : Option Jvm.ClassFile.FieldType)) ∈ TT := tt_5 (List.mem_of_getElem? (i := 50) rfl) rfl
theorem km_X0_26 : (Cond.methodLink RX0 26 yX7_placeOf) ∈ TT := tt_5 (List.mem_of_getElem? (i := 51) rfl) rfl
theorem km_X0_44 : (Cond.methodLink RX0 44 yX7_out) ∈ TT := tt_5 (List.mem_of_getElem? (i := 52) rfl) rfl
theorem km_X0_48 : (Cond.methodLink RX0 48 yX7_owed) ∈ TT := tt_5 (List.mem_of_getElem? (i := 53) rfl) rfl
theorem km_X0_15 : (Cond.methodLink RX0 15 yX0_reaches) ∈ TT := tt_5 (List.mem_of_getElem? (i := 54) rfl) rfl
theorem ki_X0_reaches : (Cond.instanceMethod yX0_reaches) ∈ TT := tt_5 (List.mem_of_getElem? (i := 56) rfl) rfl
theorem kc_X0_reaches : (Cond.code yX0_reaches prog_2_method_5_code 7 (Option.some Jvm.ClassFile.FieldType.boolean)) ∈ TT := tt_5 (List.mem_of_getElem? (i := 57) rfl) rfl
theorem km_X0_55 : (Cond.methodLink RX0 55 yX0_step) ∈ TT := tt_5 (List.mem_of_getElem? (i := 58) rfl) rfl
theorem ki_X0_step : (Cond.instanceMethod yX0_step) ∈ TT := tt_5 (List.mem_of_getElem? (i := 59) rfl) rfl
theorem ks_X0_step : (Cond.selects RX0 yX0_step yX0_step) ∈ TT := tt_5 (List.mem_of_getElem? (i := 60) rfl) rfl
theorem kc_X0_step : (Cond.code yX0_step prog_2_method_3_code 2 (Option.some Jvm.ClassFile.FieldType.int)) ∈ TT := tt_5 (List.mem_of_getElem? (i := 61) rfl) rfl
theorem km_X0_58 : (Cond.methodLink RX0 58 yJ9_floorMod_7cf53) ∈ TT := tt_5 (List.mem_of_getElem? (i := 62) rfl) rfl
theorem km_X11_290 : (Cond.methodLink RX11 290 yX0_step) ∈ TT := tt_5 (List.mem_of_getElem? (i := 63) rfl) rfl
theorem km_L_116 : (Cond.methodLink RL 116 yX11_settled) ∈ TT := tt_5 (List.mem_of_getElem? (i := 64) rfl) rfl
theorem ki_X11_settled : (Cond.instanceMethod yX11_settled) ∈ TT := tt_5 (List.mem_of_getElem? (i := 65) rfl) rfl
theorem ks_X11_settled : (Cond.selects RX11 yX11_settled yX11_settled) ∈ TT := tt_5 (List.mem_of_getElem? (i := 66) rfl) rfl
theorem kc_X11_settled : (Cond.code yX11_settled prog_1_method_26_code 3 (Option.some Jvm.ClassFile.FieldType.int)) ∈ TT := tt_5 (List.mem_of_getElem? (i := 67) rfl) rfl
theorem km_X11_293 : (Cond.methodLink RX11 293 yX5_mostEvenSets) ∈ TT := tt_5 (List.mem_of_getElem? (i := 68) rfl) rfl
theorem ki_X5_mostEvenSets : (Cond.instanceMethod yX5_mostEvenSets) ∈ TT := tt_5 (List.mem_of_getElem? (i := 69) rfl) rfl
theorem ks_X5_mostEvenSets : (Cond.selects RX5 yX5_mostEvenSets yX5_mostEvenSets) ∈ TT := tt_5 (List.mem_of_getElem? (i := 70) rfl) rfl
theorem kc_X5_mostEvenSets : (Cond.code yX5_mostEvenSets prog_7_method_2_code 7 (Option.some Jvm.ClassFile.FieldType.int)) ∈ TT := tt_5 (List.mem_of_getElem? (i := 71) rfl) rfl
theorem km_X5_24 : (Cond.methodLink RX5 24 yJ9_min_7cf53) ∈ TT := tt_5 (List.mem_of_getElem? (i := 72) rfl) rfl
theorem km_X5_30 : (Cond.methodLink RX5 30 yJ6_numberOfTrailingZeros_0f7a4) ∈ TT := tt_5 (List.mem_of_getElem? (i := 73) rfl) rfl
theorem kt_J6_numberOfTrailingZeros_0f7a4 : (Cond.static yJ6_numberOfTrailingZeros_0f7a4) ∈ TT := tt_5 (List.mem_of_getElem? (i := 74) rfl) rfl
theorem kc_J6_numberOfTrailingZeros_0f7a4 : (Cond.code yJ6_numberOfTrailingZeros_0f7a4 prog_16_method_48_code 2 (Option.some Jvm.ClassFile.FieldType.int)) ∈ TT := tt_5 (List.mem_of_getElem? (i := 75) rfl) rfl
theorem kk_J6_264 : (Cond.constant RJ6 264 (65536 : Int32)) ∈ TT := tt_5 (List.mem_of_getElem? (i := 76) rfl) rfl
theorem km_X5_36 : (Cond.methodLink RX5 36 yX7_owedTogether) ∈ TT := tt_5 (List.mem_of_getElem? (i := 77) rfl) rfl
theorem km_X5_39 : (Cond.methodLink RX5 39 yX7_owesTogether) ∈ TT := tt_5 (List.mem_of_getElem? (i := 78) rfl) rfl
theorem km_X5_42 : (Cond.methodLink RX5 42 yJ9_max_7cf53) ∈ TT := tt_5 (List.mem_of_getElem? (i := 79) rfl) rfl
theorem km_L_121 : (Cond.methodLink RL 121 yX11_lane) ∈ TT := tt_5 (List.mem_of_getElem? (i := 80) rfl) rfl
theorem ki_X11_lane : (Cond.instanceMethod yX11_lane) ∈ TT := tt_5 (List.mem_of_getElem? (i := 81) rfl) rfl
theorem ks_X11_lane : (Cond.selects RX11 yX11_lane yX11_lane) ∈ TT := tt_5 (List.mem_of_getElem? (i := 82) rfl) rfl
theorem kc_X11_lane : (Cond.code yX11_lane prog_1_method_27_code 13 (Option.some Jvm.ClassFile.FieldType.int)) ∈ TT := tt_5 (List.mem_of_getElem? (i := 83) rfl) rfl
theorem km_L_126 : (Cond.methodLink RL 126 yX11_doors) ∈ TT := tt_5 (List.mem_of_getElem? (i := 84) rfl) rfl
theorem ki_X11_doors : (Cond.instanceMethod yX11_doors) ∈ TT := tt_5 (List.mem_of_getElem? (i := 85) rfl) rfl
theorem ks_X11_doors : (Cond.selects RX11 yX11_doors yX11_doors) ∈ TT := tt_5 (List.mem_of_getElem? (i := 86) rfl) rfl
theorem kc_X11_doors : (Cond.code yX11_doors prog_1_method_28_code 2 (Option.some Jvm.ClassFile.FieldType.int)) ∈ TT := tt_5 (List.mem_of_getElem? (i := 87) rfl) rfl
theorem km_X11_300 : (Cond.methodLink RX11 300 yX5_weighOrders) ∈ TT := tt_5 (List.mem_of_getElem? (i := 88) rfl) rfl
theorem ki_X5_weighOrders : (Cond.instanceMethod yX5_weighOrders) ∈ TT := tt_5 (List.mem_of_getElem? (i := 89) rfl) rfl
theorem ks_X5_weighOrders : (Cond.selects RX5 yX5_weighOrders yX5_weighOrders) ∈ TT := tt_5 (List.mem_of_getElem? (i := 90) rfl) rfl
theorem kc_X5_weighOrders : (Cond.code yX5_weighOrders prog_7_method_3_code 5 (Option.none : Option Jvm.ClassFile.FieldType)) ∈ TT := tt_5 (List.mem_of_getElem? (i := 91) rfl) rfl
theorem kk_X5_45 : (Cond.constant RX5 45 (2147483647 : Int32)) ∈ TT := tt_5 (List.mem_of_getElem? (i := 92) rfl) rfl
theorem km_X5_46 : (Cond.methodLink RX5 46 yX5_paidWith) ∈ TT := tt_5 (List.mem_of_getElem? (i := 93) rfl) rfl
theorem ki_X5_paidWith : (Cond.instanceMethod yX5_paidWith) ∈ TT := tt_5 (List.mem_of_getElem? (i := 95) rfl) rfl
theorem kc_X5_paidWith : (Cond.code yX5_paidWith prog_7_method_7_code 6 (Option.some Jvm.ClassFile.FieldType.int)) ∈ TT := tt_5 (List.mem_of_getElem? (i := 96) rfl) rfl
theorem km_X5_54 : (Cond.methodLink RX5 54 yX7_owed) ∈ TT := tt_5 (List.mem_of_getElem? (i := 97) rfl) rfl
theorem km_X11_304 : (Cond.methodLink RX11 304 yX5_leastPaid) ∈ TT := tt_5 (List.mem_of_getElem? (i := 98) rfl) rfl
theorem ki_X5_leastPaid : (Cond.instanceMethod yX5_leastPaid) ∈ TT := tt_5 (List.mem_of_getElem? (i := 99) rfl) rfl
theorem ks_X5_leastPaid : (Cond.selects RX5 yX5_leastPaid yX5_leastPaid) ∈ TT := tt_5 (List.mem_of_getElem? (i := 100) rfl) rfl
theorem kc_X5_leastPaid : (Cond.code yX5_leastPaid prog_7_method_4_code 1 (Option.some Jvm.ClassFile.FieldType.int)) ∈ TT := tt_5 (List.mem_of_getElem? (i := 101) rfl) rfl
theorem km_X11_307 : (Cond.methodLink RX11 307 yX5_door) ∈ TT := tt_5 (List.mem_of_getElem? (i := 102) rfl) rfl
theorem ki_X5_door : (Cond.instanceMethod yX5_door) ∈ TT := tt_5 (List.mem_of_getElem? (i := 103) rfl) rfl
theorem ks_X5_door : (Cond.selects RX5 yX5_door yX5_door) ∈ TT := tt_5 (List.mem_of_getElem? (i := 104) rfl) rfl
theorem kc_X5_door : (Cond.code yX5_door prog_7_method_5_code 6 (Option.some Jvm.ClassFile.FieldType.int)) ∈ TT := tt_5 (List.mem_of_getElem? (i := 105) rfl) rfl
theorem km_X5_50 : (Cond.methodLink RX5 50 yX5_nextDoor) ∈ TT := tt_5 (List.mem_of_getElem? (i := 106) rfl) rfl
theorem ki_X5_nextDoor : (Cond.instanceMethod yX5_nextDoor) ∈ TT := tt_5 (List.mem_of_getElem? (i := 108) rfl) rfl
theorem kc_X5_nextDoor : (Cond.code yX5_nextDoor prog_7_method_6_code 5 (Option.some Jvm.ClassFile.FieldType.int)) ∈ TT := tt_5 (List.mem_of_getElem? (i := 109) rfl) rfl
theorem km_L_130 : (Cond.methodLink RL 130 yX11_neck) ∈ TT := tt_5 (List.mem_of_getElem? (i := 110) rfl) rfl
theorem ki_X11_neck : (Cond.instanceMethod yX11_neck) ∈ TT := tt_5 (List.mem_of_getElem? (i := 111) rfl) rfl
theorem ks_X11_neck : (Cond.selects RX11 yX11_neck yX11_neck) ∈ TT := tt_5 (List.mem_of_getElem? (i := 112) rfl) rfl
theorem kc_X11_neck : (Cond.code yX11_neck prog_1_method_29_code 4 (Option.some Jvm.ClassFile.FieldType.boolean)) ∈ TT := tt_5 (List.mem_of_getElem? (i := 113) rfl) rfl
theorem km_X11_311 : (Cond.methodLink RX11 311 yX11_necksNow) ∈ TT := tt_5 (List.mem_of_getElem? (i := 114) rfl) rfl
theorem ki_X11_necksNow : (Cond.instanceMethod yX11_necksNow) ∈ TT := tt_5 (List.mem_of_getElem? (i := 116) rfl) rfl
theorem kc_X11_necksNow : (Cond.code yX11_necksNow prog_1_method_41_code 1 (Option.some Jvm.ClassFile.FieldType.int)) ∈ TT := tt_5 (List.mem_of_getElem? (i := 117) rfl) rfl
theorem km_L_135 : (Cond.methodLink RL 135 yX11_explained) ∈ TT := tt_5 (List.mem_of_getElem? (i := 118) rfl) rfl
theorem ki_X11_explained : (Cond.instanceMethod yX11_explained) ∈ TT := tt_5 (List.mem_of_getElem? (i := 119) rfl) rfl
theorem ks_X11_explained : (Cond.selects RX11 yX11_explained yX11_explained) ∈ TT := tt_5 (List.mem_of_getElem? (i := 120) rfl) rfl
theorem kc_X11_explained : (Cond.code yX11_explained prog_1_method_30_code 1 (Option.some Jvm.ClassFile.FieldType.int)) ∈ TT := tt_5 (List.mem_of_getElem? (i := 121) rfl) rfl
theorem km_X11_318 : (Cond.methodLink RX11 318 yX2_reckon) ∈ TT := tt_5 (List.mem_of_getElem? (i := 122) rfl) rfl
theorem ki_X2_reckon : (Cond.instanceMethod yX2_reckon) ∈ TT := tt_5 (List.mem_of_getElem? (i := 123) rfl) rfl
theorem ks_X2_reckon : (Cond.selects RX2 yX2_reckon yX2_reckon) ∈ TT := tt_5 (List.mem_of_getElem? (i := 124) rfl) rfl
theorem kc_X2_reckon : (Cond.code yX2_reckon prog_4_method_2_code 6 (Option.none : Option Jvm.ClassFile.FieldType)) ∈ TT := tt_5 (List.mem_of_getElem? (i := 125) rfl) rfl
theorem km_X2_33 : (Cond.methodLink RX2 33 yJ9_min_7cf53) ∈ TT := tt_5 (List.mem_of_getElem? (i := 126) rfl) rfl
theorem km_X2_39 : (Cond.methodLink RX2 39 yX2_listTwos) ∈ TT := tt_5 (List.mem_of_getElem? (i := 127) rfl) rfl
theorem ki_X2_listTwos : (Cond.instanceMethod yX2_listTwos) ∈ TT := tt_5 (List.mem_of_getElem? (i := 129) rfl) rfl
theorem kc_X2_listTwos : (Cond.code yX2_listTwos prog_4_method_3_code 4 (Option.none : Option Jvm.ClassFile.FieldType)) ∈ TT := tt_5 (List.mem_of_getElem? (i := 130) rfl) rfl
theorem km_X2_46 : (Cond.methodLink RX2 46 yJ6_numberOfTrailingZeros_0f7a4) ∈ TT := tt_5 (List.mem_of_getElem? (i := 132) rfl) rfl
theorem km_X2_56 : (Cond.methodLink RX2 56 yX2_bend) ∈ TT := tt_5 (List.mem_of_getElem? (i := 133) rfl) rfl
theorem ki_X2_bend : (Cond.instanceMethod yX2_bend) ∈ TT := tt_5 (List.mem_of_getElem? (i := 135) rfl) rfl
theorem kc_X2_bend : (Cond.code yX2_bend prog_4_method_4_code 6 (Option.none : Option Jvm.ClassFile.FieldType)) ∈ TT := tt_5 (List.mem_of_getElem? (i := 136) rfl) rfl
theorem km_X2_66 : (Cond.methodLink RX2 66 yX7_owed) ∈ TT := tt_5 (List.mem_of_getElem? (i := 137) rfl) rfl
theorem km_X2_60 : (Cond.methodLink RX2 60 yX2_explains) ∈ TT := tt_5 (List.mem_of_getElem? (i := 138) rfl) rfl
theorem ki_X2_explains : (Cond.instanceMethod yX2_explains) ∈ TT := tt_5 (List.mem_of_getElem? (i := 140) rfl) rfl
theorem kc_X2_explains : (Cond.code yX2_explains prog_4_method_5_code 3 (Option.some Jvm.ClassFile.FieldType.boolean)) ∈ TT := tt_5 (List.mem_of_getElem? (i := 141) rfl) rfl
theorem km_X2_64 : (Cond.methodLink RX2 64 yX2_count) ∈ TT := tt_5 (List.mem_of_getElem? (i := 142) rfl) rfl
theorem ki_X2_count : (Cond.instanceMethod yX2_count) ∈ TT := tt_5 (List.mem_of_getElem? (i := 144) rfl) rfl
theorem kc_X2_count : (Cond.code yX2_count prog_4_method_6_code 3 (Option.none : Option Jvm.ClassFile.FieldType)) ∈ TT := tt_5 (List.mem_of_getElem? (i := 145) rfl) rfl
theorem km_L_139 : (Cond.methodLink RL 139 yX11_sure) ∈ TT := tt_5 (List.mem_of_getElem? (i := 146) rfl) rfl
theorem ki_X11_sure : (Cond.instanceMethod yX11_sure) ∈ TT := tt_5 (List.mem_of_getElem? (i := 147) rfl) rfl
theorem ks_X11_sure : (Cond.selects RX11 yX11_sure yX11_sure) ∈ TT := tt_5 (List.mem_of_getElem? (i := 148) rfl) rfl
theorem kc_X11_sure : (Cond.code yX11_sure prog_1_method_31_code 4 (Option.some Jvm.ClassFile.FieldType.int)) ∈ TT := tt_5 (List.mem_of_getElem? (i := 149) rfl) rfl
theorem km_X11_325 : (Cond.methodLink RX11 325 yX2_sureOf) ∈ TT := tt_5 (List.mem_of_getElem? (i := 150) rfl) rfl
theorem ki_X2_sureOf : (Cond.instanceMethod yX2_sureOf) ∈ TT := tt_5 (List.mem_of_getElem? (i := 151) rfl) rfl
theorem ks_X2_sureOf : (Cond.selects RX2 yX2_sureOf yX2_sureOf) ∈ TT := tt_5 (List.mem_of_getElem? (i := 152) rfl) rfl
theorem kc_X2_sureOf : (Cond.code yX2_sureOf prog_4_method_7_code 4 (Option.some Jvm.ClassFile.FieldType.int)) ∈ TT := tt_5 (List.mem_of_getElem? (i := 153) rfl) rfl
theorem km_L_143 : (Cond.methodLink RL 143 yX11_corner) ∈ TT := tt_5 (List.mem_of_getElem? (i := 154) rfl) rfl
theorem ki_X11_corner : (Cond.instanceMethod yX11_corner) ∈ TT := tt_5 (List.mem_of_getElem? (i := 155) rfl) rfl
theorem ks_X11_corner : (Cond.selects RX11 yX11_corner yX11_corner) ∈ TT := tt_5 (List.mem_of_getElem? (i := 156) rfl) rfl
theorem kc_X11_corner : (Cond.code yX11_corner prog_1_method_32_code 1 (Option.some Jvm.ClassFile.FieldType.int)) ∈ TT := tt_5 (List.mem_of_getElem? (i := 157) rfl) rfl
theorem km_X11_328 : (Cond.methodLink RX11 328 yX2_mostOpen) ∈ TT := tt_5 (List.mem_of_getElem? (i := 158) rfl) rfl
theorem ki_X2_mostOpen : (Cond.instanceMethod yX2_mostOpen) ∈ TT := tt_5 (List.mem_of_getElem? (i := 159) rfl) rfl
theorem ks_X2_mostOpen : (Cond.selects RX2 yX2_mostOpen yX2_mostOpen) ∈ TT := tt_5 (List.mem_of_getElem? (i := 160) rfl) rfl
theorem kc_X2_mostOpen : (Cond.code yX2_mostOpen prog_4_method_8_code 5 (Option.some Jvm.ClassFile.FieldType.int)) ∈ TT := tt_5 (List.mem_of_getElem? (i := 161) rfl) rfl
theorem kk_X2_69 : (Cond.constant RX2 69 (2147483647 : Int32)) ∈ TT := tt_5 (List.mem_of_getElem? (i := 162) rfl) rfl
theorem km_X2_70 : (Cond.methodLink RX2 70 yJ9_abs_0f7a4) ∈ TT := tt_5 (List.mem_of_getElem? (i := 163) rfl) rfl
theorem kt_J9_abs_0f7a4 : (Cond.static yJ9_abs_0f7a4) ∈ TT := tt_5 (List.mem_of_getElem? (i := 164) rfl) rfl
theorem kc_J9_abs_0f7a4 : (Cond.code yJ9_abs_0f7a4 prog_17_method_59_code 1 (Option.some Jvm.ClassFile.FieldType.int)) ∈ TT := tt_5 (List.mem_of_getElem? (i := 165) rfl) rfl
theorem km_L_147 : (Cond.methodLink RL 147 yX11_image) ∈ TT := tt_5 (List.mem_of_getElem? (i := 166) rfl) rfl
theorem ki_X11_image : (Cond.instanceMethod yX11_image) ∈ TT := tt_5 (List.mem_of_getElem? (i := 167) rfl) rfl
theorem ks_X11_image : (Cond.selects RX11 yX11_image yX11_image) ∈ TT := tt_5 (List.mem_of_getElem? (i := 168) rfl) rfl
theorem kc_X11_image : (Cond.code yX11_image prog_1_method_33_code 1 (Option.some Jvm.ClassFile.FieldType.int)) ∈ TT := tt_5 (List.mem_of_getElem? (i := 169) rfl) rfl
theorem km_X11_331 : (Cond.methodLink RX11 331 yX10_copyFrom) ∈ TT := tt_5 (List.mem_of_getElem? (i := 170) rfl) rfl
theorem ki_X10_copyFrom : (Cond.instanceMethod yX10_copyFrom) ∈ TT := tt_5 (List.mem_of_getElem? (i := 171) rfl) rfl
theorem ks_X10_copyFrom : (Cond.selects RX10 yX10_copyFrom yX10_copyFrom) ∈ TT := tt_5 (List.mem_of_getElem? (i := 172) rfl) rfl
theorem kc_X10_copyFrom : (Cond.code yX10_copyFrom prog_12_method_2_code 5 (Option.none : Option Jvm.ClassFile.FieldType)) ∈ TT := tt_5 (List.mem_of_getElem? (i := 173) rfl) rfl
theorem km_X10_34 : (Cond.methodLink RX10 34 ⟨"java/lang/System", "arraycopy", "(Ljava/lang/Object;ILjava/lang/Object;II)V"⟩) ∈ TT := tt_5 (List.mem_of_getElem? (i := 174) rfl) rfl
theorem km_L_151 : (Cond.methodLink RL 151 yX11_back) ∈ TT := tt_5 (List.mem_of_getElem? (i := 175) rfl) rfl
theorem ki_X11_back : (Cond.instanceMethod yX11_back) ∈ TT := tt_5 (List.mem_of_getElem? (i := 176) rfl) rfl
theorem ks_X11_back : (Cond.selects RX11 yX11_back yX11_back) ∈ TT := tt_5 (List.mem_of_getElem? (i := 177) rfl) rfl
theorem kc_X11_back : (Cond.code yX11_back prog_1_method_34_code 1 (Option.some Jvm.ClassFile.FieldType.int)) ∈ TT := tt_5 (List.mem_of_getElem? (i := 178) rfl) rfl
theorem km_L_155 : (Cond.methodLink RL 155 yX11_about) ∈ TT := tt_5 (List.mem_of_getElem? (i := 179) rfl) rfl
theorem ki_X11_about : (Cond.instanceMethod yX11_about) ∈ TT := tt_5 (List.mem_of_getElem? (i := 180) rfl) rfl
theorem ks_X11_about : (Cond.selects RX11 yX11_about yX11_about) ∈ TT := tt_5 (List.mem_of_getElem? (i := 181) rfl) rfl
theorem kc_X11_about : (Cond.code yX11_about prog_1_method_35_code 2 (Option.some Jvm.ClassFile.FieldType.int)) ∈ TT := tt_5 (List.mem_of_getElem? (i := 182) rfl) rfl
theorem kl_L_10 : (Cond.classLink RL 10 RX12) ∈ TT := tt_5 (List.mem_of_getElem? (i := 183) rfl) rfl
theorem ka_X12 : (Cond.instantiable RX12 46) ∈ TT := tt_5 (List.mem_of_getElem? (i := 184) rfl) rfl
theorem km_L_12 : (Cond.methodLink RL 12 yX12_init) ∈ TT := tt_5 (List.mem_of_getElem? (i := 185) rfl) rfl
theorem ki_X12_init : (Cond.instanceMethod yX12_init) ∈ TT := tt_5 (List.mem_of_getElem? (i := 186) rfl) rfl
theorem kc_X12_init : (Cond.code yX12_init prog_14_method_1_code 2 (Option.none : Option Jvm.ClassFile.FieldType)) ∈ TT := tt_5 (List.mem_of_getElem? (i := 187) rfl) rfl
theorem km_X12_1 : (Cond.methodLink RX12 1 objectInit) ∈ TT := tt_5 (List.mem_of_getElem? (i := 188) rfl) rfl
theorem km_X12_103 : (Cond.methodLink RX12 103 yX12_copies) ∈ TT := tt_5 (List.mem_of_getElem? (i := 189) rfl) rfl
theorem ki_X12_copies : (Cond.instanceMethod yX12_copies) ∈ TT := tt_5 (List.mem_of_getElem? (i := 191) rfl) rfl
theorem kc_X12_copies : (Cond.code yX12_copies prog_14_method_5_code 3 (Option.none : Option Jvm.ClassFile.FieldType)) ∈ TT := tt_5 (List.mem_of_getElem? (i := 192) rfl) rfl
theorem kf_X12_7 : (Cond.fieldLink RX12 7 "BowsOwedModel" "a" "[I") ∈ TT := tt_5 (List.mem_of_getElem? (i := 193) rfl) rfl
theorem kf_X12_13 : (Cond.fieldLink RX12 13 "BowsOwedModel" "image" "[I") ∈ TT := tt_5 (List.mem_of_getElem? (i := 194) rfl) rfl
theorem kf_X12_16 : (Cond.fieldLink RX12 16 "BowsOwedModel" "tape" "[B") ∈ TT := tt_5 (List.mem_of_getElem? (i := 195) rfl) rfl
theorem kf_X12_119 : (Cond.fieldLink RX12 119 "BowsOwedModel" "taped" "I") ∈ TT := tt_5 (List.mem_of_getElem? (i := 196) rfl) rfl
theorem kf_X12_20 : (Cond.fieldLink RX12 20 "BowsOwedModel" "fault" "I") ∈ TT := tt_5 (List.mem_of_getElem? (i := 197) rfl) rfl
theorem kf_X12_24 : (Cond.fieldLink RX12 24 "BowsOwedModel" "faultAt" "I") ∈ TT := tt_5 (List.mem_of_getElem? (i := 198) rfl) rfl
theorem kf_X12_27 : (Cond.fieldLink RX12 27 "BowsOwedModel" "clauses" "[I") ∈ TT := tt_5 (List.mem_of_getElem? (i := 199) rfl) rfl
theorem kf_X12_30 : (Cond.fieldLink RX12 30 "BowsOwedModel" "clauseWord" "[I") ∈ TT := tt_5 (List.mem_of_getElem? (i := 200) rfl) rfl
theorem kf_X12_33 : (Cond.fieldLink RX12 33 "BowsOwedModel" "clauseAt" "[I") ∈ TT := tt_5 (List.mem_of_getElem? (i := 201) rfl) rfl
theorem kf_X12_36 : (Cond.fieldLink RX12 36 "BowsOwedModel" "clauseOne" "[I") ∈ TT := tt_5 (List.mem_of_getElem? (i := 202) rfl) rfl
theorem kf_X12_39 : (Cond.fieldLink RX12 39 "BowsOwedModel" "clauseTwo" "[I") ∈ TT := tt_5 (List.mem_of_getElem? (i := 203) rfl) rfl
theorem kf_X12_42 : (Cond.fieldLink RX12 42 "BowsOwedModel" "clauseThree" "[I") ∈ TT := tt_5 (List.mem_of_getElem? (i := 204) rfl) rfl
theorem kf_X12_45 : (Cond.fieldLink RX12 45 "BowsOwedModel" "order" "[I") ∈ TT := tt_5 (List.mem_of_getElem? (i := 205) rfl) rfl
theorem kf_X12_48 : (Cond.fieldLink RX12 48 "BowsOwedModel" "value" "[I") ∈ TT := tt_5 (List.mem_of_getElem? (i := 206) rfl) rfl
theorem kf_X12_193 : (Cond.fieldLink RX12 193 "BowsOwedModel" "textLength" "I") ∈ TT := tt_5 (List.mem_of_getElem? (i := 207) rfl) rfl
theorem kf_X12_190 : (Cond.fieldLink RX12 190 "BowsOwedModel" "at" "I") ∈ TT := tt_5 (List.mem_of_getElem? (i := 208) rfl) rfl
theorem kf_X12_196 : (Cond.fieldLink RX12 196 "BowsOwedModel" "token" "I") ∈ TT := tt_5 (List.mem_of_getElem? (i := 209) rfl) rfl
theorem kf_X12_199 : (Cond.fieldLink RX12 199 "BowsOwedModel" "sort" "I") ∈ TT := tt_5 (List.mem_of_getElem? (i := 210) rfl) rfl
theorem kf_X12_211 : (Cond.fieldLink RX12 211 "BowsOwedModel" "tokenIs" "I") ∈ TT := tt_5 (List.mem_of_getElem? (i := 211) rfl) rfl
theorem kf_X12_215 : (Cond.fieldLink RX12 215 "BowsOwedModel" "wrong" "I") ∈ TT := tt_5 (List.mem_of_getElem? (i := 212) rfl) rfl
theorem kf_X12_218 : (Cond.fieldLink RX12 218 "BowsOwedModel" "wrongAt" "I") ∈ TT := tt_5 (List.mem_of_getElem? (i := 213) rfl) rfl
theorem kf_X12_227 : (Cond.fieldLink RX12 227 "BowsOwedModel" "open" "I") ∈ TT := tt_5 (List.mem_of_getElem? (i := 214) rfl) rfl
theorem kf_X12_224 : (Cond.fieldLink RX12 224 "BowsOwedModel" "frames" "I") ∈ TT := tt_5 (List.mem_of_getElem? (i := 215) rfl) rfl
theorem kf_X12_51 : (Cond.fieldLink RX12 51 "BowsOwedModel" "frame" "[I") ∈ TT := tt_5 (List.mem_of_getElem? (i := 216) rfl) rfl
theorem kf_X12_54 : (Cond.fieldLink RX12 54 "BowsOwedModel" "compare" "[I") ∈ TT := tt_5 (List.mem_of_getElem? (i := 217) rfl) rfl
theorem kf_X12_239 : (Cond.fieldLink RX12 239 "BowsOwedModel" "waits" "I") ∈ TT := tt_5 (List.mem_of_getElem? (i := 218) rfl) rfl
theorem kf_X12_57 : (Cond.fieldLink RX12 57 "BowsOwedModel" "wait" "[I") ∈ TT := tt_5 (List.mem_of_getElem? (i := 219) rfl) rfl
theorem kf_X12_60 : (Cond.fieldLink RX12 60 "BowsOwedModel" "waitFrame" "[I") ∈ TT := tt_5 (List.mem_of_getElem? (i := 220) rfl) rfl
theorem kf_X12_258 : (Cond.fieldLink RX12 258 "BowsOwedModel" "state" "I") ∈ TT := tt_5 (List.mem_of_getElem? (i := 221) rfl) rfl
theorem kf_X12_63 : (Cond.fieldLink RX12 63 "BowsOwedModel" "openAt" "[I") ∈ TT := tt_5 (List.mem_of_getElem? (i := 222) rfl) rfl
theorem kf_X12_299 : (Cond.fieldLink RX12 299 "BowsOwedModel" "newClauses" "I") ∈ TT := tt_5 (List.mem_of_getElem? (i := 223) rfl) rfl
theorem kf_X12_268 : (Cond.fieldLink RX12 268 "BowsOwedModel" "newKind" "I") ∈ TT := tt_5 (List.mem_of_getElem? (i := 224) rfl) rfl
theorem kf_X12_66 : (Cond.fieldLink RX12 66 "BowsOwedModel" "newWord" "[I") ∈ TT := tt_5 (List.mem_of_getElem? (i := 225) rfl) rfl
theorem kf_X12_69 : (Cond.fieldLink RX12 69 "BowsOwedModel" "newAt" "[I") ∈ TT := tt_5 (List.mem_of_getElem? (i := 226) rfl) rfl
theorem kf_X12_72 : (Cond.fieldLink RX12 72 "BowsOwedModel" "newOne" "[I") ∈ TT := tt_5 (List.mem_of_getElem? (i := 227) rfl) rfl
theorem kf_X12_75 : (Cond.fieldLink RX12 75 "BowsOwedModel" "newTwo" "[I") ∈ TT := tt_5 (List.mem_of_getElem? (i := 228) rfl) rfl
theorem kf_X12_78 : (Cond.fieldLink RX12 78 "BowsOwedModel" "newThree" "[I") ∈ TT := tt_5 (List.mem_of_getElem? (i := 229) rfl) rfl
theorem kf_X12_221 : (Cond.fieldLink RX12 221 "BowsOwedModel" "newOrders" "I") ∈ TT := tt_5 (List.mem_of_getElem? (i := 230) rfl) rfl
theorem kf_X12_81 : (Cond.fieldLink RX12 81 "BowsOwedModel" "newOrder" "[I") ∈ TT := tt_5 (List.mem_of_getElem? (i := 231) rfl) rfl
theorem kf_X12_84 : (Cond.fieldLink RX12 84 "BowsOwedModel" "newValue" "[I") ∈ TT := tt_5 (List.mem_of_getElem? (i := 232) rfl) rfl
theorem kf_X12_87 : (Cond.fieldLink RX12 87 "BowsOwedModel" "w" "[I") ∈ TT := tt_5 (List.mem_of_getElem? (i := 233) rfl) rfl
theorem kf_X12_90 : (Cond.fieldLink RX12 90 "BowsOwedModel" "name" "[I") ∈ TT := tt_5 (List.mem_of_getElem? (i := 234) rfl) rfl
theorem kf_X12_93 : (Cond.fieldLink RX12 93 "BowsOwedModel" "pile" "[J") ∈ TT := tt_5 (List.mem_of_getElem? (i := 235) rfl) rfl
theorem kf_X12_393 : (Cond.fieldLink RX12 393 "BowsOwedModel" "firstRuined" "I") ∈ TT := tt_5 (List.mem_of_getElem? (i := 236) rfl) rfl
theorem kf_X12_97 : (Cond.fieldLink RX12 97 "BowsOwedModel" "yet" "[I") ∈ TT := tt_5 (List.mem_of_getElem? (i := 237) rfl) rfl
theorem kf_X12_100 : (Cond.fieldLink RX12 100 "BowsOwedModel" "best" "[I") ∈ TT := tt_5 (List.mem_of_getElem? (i := 238) rfl) rfl
theorem kv_X12_a : (Cond.laysFinal "BowsOwedModel" "BowsOwedModel" "a" "[I") ∈ TT := tt_5 (List.mem_of_getElem? (i := 239) rfl) rfl
theorem kv_X12_image : (Cond.laysFinal "BowsOwedModel" "BowsOwedModel" "image" "[I") ∈ TT := tt_6 (List.mem_of_getElem? (i := 1) rfl) rfl
theorem kv_X12_tape : (Cond.laysFinal "BowsOwedModel" "BowsOwedModel" "tape" "[B") ∈ TT := tt_6 (List.mem_of_getElem? (i := 3) rfl) rfl
theorem kv_X12_taped : (Cond.lays "BowsOwedModel" "BowsOwedModel" "taped" "I") ∈ TT := tt_6 (List.mem_of_getElem? (i := 5) rfl) rfl
theorem kv_X12_fault : (Cond.lays "BowsOwedModel" "BowsOwedModel" "fault" "I") ∈ TT := tt_6 (List.mem_of_getElem? (i := 7) rfl) rfl
theorem kv_X12_faultAt : (Cond.lays "BowsOwedModel" "BowsOwedModel" "faultAt" "I") ∈ TT := tt_6 (List.mem_of_getElem? (i := 9) rfl) rfl
theorem kv_X12_clauses : (Cond.laysFinal "BowsOwedModel" "BowsOwedModel" "clauses" "[I") ∈ TT := tt_6 (List.mem_of_getElem? (i := 11) rfl) rfl
theorem kv_X12_clauseWord : (Cond.laysFinal "BowsOwedModel" "BowsOwedModel" "clauseWord" "[I") ∈ TT := tt_6 (List.mem_of_getElem? (i := 13) rfl) rfl
theorem kv_X12_clauseAt : (Cond.laysFinal "BowsOwedModel" "BowsOwedModel" "clauseAt" "[I") ∈ TT := tt_6 (List.mem_of_getElem? (i := 15) rfl) rfl
theorem kv_X12_clauseOne : (Cond.laysFinal "BowsOwedModel" "BowsOwedModel" "clauseOne" "[I") ∈ TT := tt_6 (List.mem_of_getElem? (i := 17) rfl) rfl
theorem kv_X12_clauseTwo : (Cond.laysFinal "BowsOwedModel" "BowsOwedModel" "clauseTwo" "[I") ∈ TT := tt_6 (List.mem_of_getElem? (i := 19) rfl) rfl
theorem kv_X12_clauseThree : (Cond.laysFinal "BowsOwedModel" "BowsOwedModel" "clauseThree" "[I") ∈ TT := tt_6 (List.mem_of_getElem? (i := 21) rfl) rfl
theorem kv_X12_order : (Cond.laysFinal "BowsOwedModel" "BowsOwedModel" "order" "[I") ∈ TT := tt_6 (List.mem_of_getElem? (i := 23) rfl) rfl
theorem kv_X12_value : (Cond.laysFinal "BowsOwedModel" "BowsOwedModel" "value" "[I") ∈ TT := tt_6 (List.mem_of_getElem? (i := 25) rfl) rfl
theorem kv_X12_textLength : (Cond.lays "BowsOwedModel" "BowsOwedModel" "textLength" "I") ∈ TT := tt_6 (List.mem_of_getElem? (i := 27) rfl) rfl
theorem kv_X12_at : (Cond.lays "BowsOwedModel" "BowsOwedModel" "at" "I") ∈ TT := tt_6 (List.mem_of_getElem? (i := 29) rfl) rfl
theorem kv_X12_token : (Cond.lays "BowsOwedModel" "BowsOwedModel" "token" "I") ∈ TT := tt_6 (List.mem_of_getElem? (i := 31) rfl) rfl
theorem kv_X12_sort : (Cond.lays "BowsOwedModel" "BowsOwedModel" "sort" "I") ∈ TT := tt_6 (List.mem_of_getElem? (i := 33) rfl) rfl
theorem kv_X12_tokenIs : (Cond.lays "BowsOwedModel" "BowsOwedModel" "tokenIs" "I") ∈ TT := tt_6 (List.mem_of_getElem? (i := 35) rfl) rfl
theorem kv_X12_wrong : (Cond.lays "BowsOwedModel" "BowsOwedModel" "wrong" "I") ∈ TT := tt_6 (List.mem_of_getElem? (i := 37) rfl) rfl
theorem kv_X12_wrongAt : (Cond.lays "BowsOwedModel" "BowsOwedModel" "wrongAt" "I") ∈ TT := tt_6 (List.mem_of_getElem? (i := 39) rfl) rfl
theorem kv_X12_open : (Cond.lays "BowsOwedModel" "BowsOwedModel" "open" "I") ∈ TT := tt_6 (List.mem_of_getElem? (i := 41) rfl) rfl
theorem kv_X12_frames : (Cond.lays "BowsOwedModel" "BowsOwedModel" "frames" "I") ∈ TT := tt_6 (List.mem_of_getElem? (i := 43) rfl) rfl
theorem kv_X12_frame : (Cond.laysFinal "BowsOwedModel" "BowsOwedModel" "frame" "[I") ∈ TT := tt_6 (List.mem_of_getElem? (i := 45) rfl) rfl
theorem kv_X12_compare : (Cond.laysFinal "BowsOwedModel" "BowsOwedModel" "compare" "[I") ∈ TT := tt_6 (List.mem_of_getElem? (i := 47) rfl) rfl
theorem kv_X12_waits : (Cond.lays "BowsOwedModel" "BowsOwedModel" "waits" "I") ∈ TT := tt_6 (List.mem_of_getElem? (i := 49) rfl) rfl
theorem kv_X12_wait : (Cond.laysFinal "BowsOwedModel" "BowsOwedModel" "wait" "[I") ∈ TT := tt_6 (List.mem_of_getElem? (i := 51) rfl) rfl
theorem kv_X12_waitFrame : (Cond.laysFinal "BowsOwedModel" "BowsOwedModel" "waitFrame" "[I") ∈ TT := tt_6 (List.mem_of_getElem? (i := 53) rfl) rfl
theorem kv_X12_state : (Cond.lays "BowsOwedModel" "BowsOwedModel" "state" "I") ∈ TT := tt_6 (List.mem_of_getElem? (i := 55) rfl) rfl
theorem kv_X12_openAt : (Cond.laysFinal "BowsOwedModel" "BowsOwedModel" "openAt" "[I") ∈ TT := tt_6 (List.mem_of_getElem? (i := 57) rfl) rfl
theorem kv_X12_newClauses : (Cond.lays "BowsOwedModel" "BowsOwedModel" "newClauses" "I") ∈ TT := tt_6 (List.mem_of_getElem? (i := 59) rfl) rfl
theorem kv_X12_newKind : (Cond.lays "BowsOwedModel" "BowsOwedModel" "newKind" "I") ∈ TT := tt_6 (List.mem_of_getElem? (i := 61) rfl) rfl
theorem kv_X12_newWord : (Cond.laysFinal "BowsOwedModel" "BowsOwedModel" "newWord" "[I") ∈ TT := tt_6 (List.mem_of_getElem? (i := 63) rfl) rfl
theorem kv_X12_newAt : (Cond.laysFinal "BowsOwedModel" "BowsOwedModel" "newAt" "[I") ∈ TT := tt_6 (List.mem_of_getElem? (i := 65) rfl) rfl
theorem kv_X12_newOne : (Cond.laysFinal "BowsOwedModel" "BowsOwedModel" "newOne" "[I") ∈ TT := tt_6 (List.mem_of_getElem? (i := 67) rfl) rfl
theorem kv_X12_newTwo : (Cond.laysFinal "BowsOwedModel" "BowsOwedModel" "newTwo" "[I") ∈ TT := tt_6 (List.mem_of_getElem? (i := 69) rfl) rfl
theorem kv_X12_newThree : (Cond.laysFinal "BowsOwedModel" "BowsOwedModel" "newThree" "[I") ∈ TT := tt_6 (List.mem_of_getElem? (i := 71) rfl) rfl
theorem kv_X12_newOrders : (Cond.lays "BowsOwedModel" "BowsOwedModel" "newOrders" "I") ∈ TT := tt_6 (List.mem_of_getElem? (i := 73) rfl) rfl
theorem kv_X12_newOrder : (Cond.laysFinal "BowsOwedModel" "BowsOwedModel" "newOrder" "[I") ∈ TT := tt_6 (List.mem_of_getElem? (i := 75) rfl) rfl
theorem kv_X12_newValue : (Cond.laysFinal "BowsOwedModel" "BowsOwedModel" "newValue" "[I") ∈ TT := tt_6 (List.mem_of_getElem? (i := 77) rfl) rfl
theorem kv_X12_w : (Cond.laysFinal "BowsOwedModel" "BowsOwedModel" "w" "[I") ∈ TT := tt_6 (List.mem_of_getElem? (i := 79) rfl) rfl
theorem kv_X12_name : (Cond.laysFinal "BowsOwedModel" "BowsOwedModel" "name" "[I") ∈ TT := tt_6 (List.mem_of_getElem? (i := 81) rfl) rfl
theorem kv_X12_pile : (Cond.laysFinal "BowsOwedModel" "BowsOwedModel" "pile" "[J") ∈ TT := tt_6 (List.mem_of_getElem? (i := 83) rfl) rfl
theorem kv_X12_firstRuined : (Cond.lays "BowsOwedModel" "BowsOwedModel" "firstRuined" "I") ∈ TT := tt_6 (List.mem_of_getElem? (i := 85) rfl) rfl
theorem kv_X12_yet : (Cond.laysFinal "BowsOwedModel" "BowsOwedModel" "yet" "[I") ∈ TT := tt_6 (List.mem_of_getElem? (i := 87) rfl) rfl
theorem kv_X12_best : (Cond.laysFinal "BowsOwedModel" "BowsOwedModel" "best" "[I") ∈ TT := tt_6 (List.mem_of_getElem? (i := 89) rfl) rfl
theorem kr_6_92 : (Cond.arrayClass Jvm.ClassFile.FieldType.long) ∈ TT := tt_6 (List.mem_of_getElem? (i := 92) rfl) rfl
theorem km_L_17 : (Cond.methodLink RL 17 yX12_person) ∈ TT := tt_6 (List.mem_of_getElem? (i := 93) rfl) rfl
theorem ki_X12_person : (Cond.instanceMethod yX12_person) ∈ TT := tt_6 (List.mem_of_getElem? (i := 94) rfl) rfl
theorem ks_X12_person : (Cond.selects RX12 yX12_person yX12_person) ∈ TT := tt_6 (List.mem_of_getElem? (i := 95) rfl) rfl
theorem kc_X12_person : (Cond.code yX12_person prog_14_method_9_code 5 (Option.some Jvm.ClassFile.FieldType.int)) ∈ TT := tt_6 (List.mem_of_getElem? (i := 96) rfl) rfl
theorem km_X12_107 : (Cond.methodLink RX12 107 yX12_in) ∈ TT := tt_6 (List.mem_of_getElem? (i := 97) rfl) rfl
theorem kt_X12_in : (Cond.static yX12_in) ∈ TT := tt_6 (List.mem_of_getElem? (i := 98) rfl) rfl
theorem kc_X12_in : (Cond.code yX12_in prog_14_method_2_code 3 (Option.some Jvm.ClassFile.FieldType.boolean)) ∈ TT := tt_6 (List.mem_of_getElem? (i := 99) rfl) rfl
theorem km_X12_115 : (Cond.methodLink RX12 115 yX12_tells) ∈ TT := tt_6 (List.mem_of_getElem? (i := 100) rfl) rfl
theorem ki_X12_tells : (Cond.instanceMethod yX12_tells) ∈ TT := tt_6 (List.mem_of_getElem? (i := 102) rfl) rfl
theorem kc_X12_tells : (Cond.code yX12_tells prog_14_method_8_code 4 (Option.none : Option Jvm.ClassFile.FieldType)) ∈ TT := tt_6 (List.mem_of_getElem? (i := 103) rfl) rfl
theorem km_L_79 : (Cond.methodLink RL 79 yX12_undo) ∈ TT := tt_6 (List.mem_of_getElem? (i := 104) rfl) rfl
theorem ki_X12_undo : (Cond.instanceMethod yX12_undo) ∈ TT := tt_6 (List.mem_of_getElem? (i := 105) rfl) rfl
theorem ks_X12_undo : (Cond.selects RX12 yX12_undo yX12_undo) ∈ TT := tt_6 (List.mem_of_getElem? (i := 106) rfl) rfl
theorem kc_X12_undo : (Cond.code yX12_undo prog_14_method_11_code 2 (Option.some Jvm.ClassFile.FieldType.int)) ∈ TT := tt_6 (List.mem_of_getElem? (i := 107) rfl) rfl
theorem km_L_54 : (Cond.methodLink RL 54 yX12_feed) ∈ TT := tt_6 (List.mem_of_getElem? (i := 108) rfl) rfl
theorem ki_X12_feed : (Cond.instanceMethod yX12_feed) ∈ TT := tt_6 (List.mem_of_getElem? (i := 109) rfl) rfl
theorem ks_X12_feed : (Cond.selects RX12 yX12_feed yX12_feed) ∈ TT := tt_6 (List.mem_of_getElem? (i := 110) rfl) rfl
theorem kc_X12_feed : (Cond.code yX12_feed prog_14_method_13_code 6 (Option.some Jvm.ClassFile.FieldType.int)) ∈ TT := tt_6 (List.mem_of_getElem? (i := 111) rfl) rfl
theorem km_X12_122 : (Cond.methodLink RX12 122 yX12_put) ∈ TT := tt_6 (List.mem_of_getElem? (i := 112) rfl) rfl
theorem ki_X12_put : (Cond.instanceMethod yX12_put) ∈ TT := tt_6 (List.mem_of_getElem? (i := 114) rfl) rfl
theorem kc_X12_put : (Cond.code yX12_put prog_14_method_12_code 3 (Option.none : Option Jvm.ClassFile.FieldType)) ∈ TT := tt_6 (List.mem_of_getElem? (i := 115) rfl) rfl
theorem km_L_58 : (Cond.methodLink RL 58 yX12_end) ∈ TT := tt_6 (List.mem_of_getElem? (i := 116) rfl) rfl
theorem ki_X12_end : (Cond.instanceMethod yX12_end) ∈ TT := tt_6 (List.mem_of_getElem? (i := 117) rfl) rfl
theorem ks_X12_end : (Cond.selects RX12 yX12_end yX12_end) ∈ TT := tt_6 (List.mem_of_getElem? (i := 118) rfl) rfl
theorem kc_X12_end : (Cond.code yX12_end prog_14_method_14_code 2 (Option.some Jvm.ClassFile.FieldType.int)) ∈ TT := tt_6 (List.mem_of_getElem? (i := 119) rfl) rfl
theorem km_L_62 : (Cond.methodLink RL 62 yX12_text) ∈ TT := tt_6 (List.mem_of_getElem? (i := 120) rfl) rfl
theorem ki_X12_text : (Cond.instanceMethod yX12_text) ∈ TT := tt_6 (List.mem_of_getElem? (i := 121) rfl) rfl
theorem ks_X12_text : (Cond.selects RX12 yX12_text yX12_text) ∈ TT := tt_6 (List.mem_of_getElem? (i := 122) rfl) rfl
theorem kc_X12_text : (Cond.code yX12_text prog_14_method_45_code 4 (Option.some Jvm.ClassFile.FieldType.int)) ∈ TT := tt_6 (List.mem_of_getElem? (i := 123) rfl) rfl
theorem km_X12_236 : (Cond.methodLink RX12 236 yX12_next) ∈ TT := tt_6 (List.mem_of_getElem? (i := 124) rfl) rfl
theorem ki_X12_next : (Cond.instanceMethod yX12_next) ∈ TT := tt_6 (List.mem_of_getElem? (i := 126) rfl) rfl
theorem kc_X12_next : (Cond.code yX12_next prog_14_method_17_code 5 (Option.none : Option Jvm.ClassFile.FieldType)) ∈ TT := tt_6 (List.mem_of_getElem? (i := 127) rfl) rfl
theorem km_X12_202 : (Cond.methodLink RX12 202 yX12_isLetter) ∈ TT := tt_6 (List.mem_of_getElem? (i := 128) rfl) rfl
theorem kt_X12_isLetter : (Cond.static yX12_isLetter) ∈ TT := tt_6 (List.mem_of_getElem? (i := 129) rfl) rfl
theorem kc_X12_isLetter : (Cond.code yX12_isLetter prog_14_method_15_code 1 (Option.some Jvm.ClassFile.FieldType.boolean)) ∈ TT := tt_6 (List.mem_of_getElem? (i := 130) rfl) rfl
theorem kk_X12_205 : (Cond.constantLong RX12 205 (64 : Int64)) ∈ TT := tt_6 (List.mem_of_getElem? (i := 131) rfl) rfl
theorem km_X12_207 : (Cond.methodLink RX12 207 yX12_wordOf) ∈ TT := tt_6 (List.mem_of_getElem? (i := 132) rfl) rfl
theorem kt_X12_wordOf : (Cond.static yX12_wordOf) ∈ TT := tt_6 (List.mem_of_getElem? (i := 133) rfl) rfl
theorem kc_X12_wordOf : (Cond.code yX12_wordOf prog_14_method_16_code 2 (Option.some Jvm.ClassFile.FieldType.int)) ∈ TT := tt_6 (List.mem_of_getElem? (i := 134) rfl) rfl
theorem kk_X12_126 : (Cond.constantLong RX12 126 (13541029 : Int64)) ∈ TT := tt_6 (List.mem_of_getElem? (i := 135) rfl) rfl
theorem kk_X12_128 : (Cond.constantLong RX12 128 (11992229 : Int64)) ∈ TT := tt_6 (List.mem_of_getElem? (i := 136) rfl) rfl
theorem kk_X12_130 : (Cond.constantLong RX12 130 (11672869 : Int64)) ∈ TT := tt_6 (List.mem_of_getElem? (i := 137) rfl) rfl
theorem kk_X12_132 : (Cond.constantLong RX12 132 (13326958 : Int64)) ∈ TT := tt_6 (List.mem_of_getElem? (i := 138) rfl) rfl
theorem kk_X12_134 : (Cond.constantLong RX12 134 (195493 : Int64)) ∈ TT := tt_6 (List.mem_of_getElem? (i := 139) rfl) rfl
theorem kk_X12_136 : (Cond.constantLong RX12 136 (142327 : Int64)) ∈ TT := tt_6 (List.mem_of_getElem? (i := 140) rfl) rfl
theorem kk_X12_138 : (Cond.constantLong RX12 138 (196069 : Int64)) ∈ TT := tt_6 (List.mem_of_getElem? (i := 141) rfl) rfl
theorem kk_X12_140 : (Cond.constantLong RX12 140 (14555947 : Int64)) ∈ TT := tt_6 (List.mem_of_getElem? (i := 142) rfl) rfl
theorem kk_X12_142 : (Cond.constantLong RX12 142 (3476587960436 : Int64)) ∈ TT := tt_6 (List.mem_of_getElem? (i := 143) rfl) rfl
theorem kk_X12_144 : (Cond.constantLong RX12 144 (598890610 : Int64)) ∈ TT := tt_6 (List.mem_of_getElem? (i := 144) rfl) rfl
theorem kk_X12_146 : (Cond.constantLong RX12 146 (647372020 : Int64)) ∈ TT := tt_6 (List.mem_of_getElem? (i := 145) rfl) rfl
theorem kk_X12_148 : (Cond.constantLong RX12 148 (10681714 : Int64)) ∈ TT := tt_6 (List.mem_of_getElem? (i := 146) rfl) rfl
theorem kk_X12_150 : (Cond.constantLong RX12 150 (9050347 : Int64)) ∈ TT := tt_6 (List.mem_of_getElem? (i := 147) rfl) rfl
theorem kk_X12_152 : (Cond.constantLong RX12 152 (2164 : Int64)) ∈ TT := tt_6 (List.mem_of_getElem? (i := 148) rfl) rfl
theorem kk_X12_154 : (Cond.constantLong RX12 154 (3375 : Int64)) ∈ TT := tt_6 (List.mem_of_getElem? (i := 149) rfl) rfl
theorem kk_X12_156 : (Cond.constantLong RX12 156 (3046 : Int64)) ∈ TT := tt_6 (List.mem_of_getElem? (i := 150) rfl) rfl
theorem kk_X12_158 : (Cond.constantLong RX12 158 (138148 : Int64)) ∈ TT := tt_6 (List.mem_of_getElem? (i := 151) rfl) rfl
theorem kk_X12_160 : (Cond.constantLong RX12 160 (3058 : Int64)) ∈ TT := tt_6 (List.mem_of_getElem? (i := 152) rfl) rfl
theorem kk_X12_162 : (Cond.constantLong RX12 162 (191476 : Int64)) ∈ TT := tt_6 (List.mem_of_getElem? (i := 153) rfl) rfl
theorem kk_X12_164 : (Cond.constantLong RX12 164 (12548452 : Int64)) ∈ TT := tt_6 (List.mem_of_getElem? (i := 154) rfl) rfl
theorem kk_X12_166 : (Cond.constantLong RX12 166 (2662 : Int64)) ∈ TT := tt_6 (List.mem_of_getElem? (i := 155) rfl) rfl
theorem kk_X12_168 : (Cond.constantLong RX12 168 (13797742 : Int64)) ∈ TT := tt_6 (List.mem_of_getElem? (i := 156) rfl) rfl
theorem kk_X12_170 : (Cond.constantLong RX12 170 (9882853 : Int64)) ∈ TT := tt_6 (List.mem_of_getElem? (i := 157) rfl) rfl
theorem kk_X12_172 : (Cond.constantLong RX12 172 (154532 : Int64)) ∈ TT := tt_6 (List.mem_of_getElem? (i := 158) rfl) rfl
theorem kk_X12_174 : (Cond.constantLong RX12 174 (149625 : Int64)) ∈ TT := tt_6 (List.mem_of_getElem? (i := 159) rfl) rfl
theorem kk_X12_176 : (Cond.constantLong RX12 176 (227887 : Int64)) ∈ TT := tt_6 (List.mem_of_getElem? (i := 160) rfl) rfl
theorem kk_X12_178 : (Cond.constantLong RX12 178 (137701 : Int64)) ∈ TT := tt_6 (List.mem_of_getElem? (i := 161) rfl) rfl
theorem kk_X12_180 : (Cond.constantLong RX12 180 (14584813 : Int64)) ∈ TT := tt_6 (List.mem_of_getElem? (i := 162) rfl) rfl
theorem kk_X12_182 : (Cond.constantLong RX12 182 (802326898 : Int64)) ∈ TT := tt_6 (List.mem_of_getElem? (i := 163) rfl) rfl
theorem kk_X12_184 : (Cond.constantLong RX12 184 (12548467 : Int64)) ∈ TT := tt_6 (List.mem_of_getElem? (i := 164) rfl) rfl
theorem kk_X12_186 : (Cond.constantLong RX12 186 (150885 : Int64)) ∈ TT := tt_6 (List.mem_of_getElem? (i := 165) rfl) rfl
theorem kk_X12_188 : (Cond.constantLong RX12 188 (665282926 : Int64)) ∈ TT := tt_6 (List.mem_of_getElem? (i := 166) rfl) rfl
theorem kk_X12_214 : (Cond.constant RX12 214 (99999 : Int32)) ∈ TT := tt_6 (List.mem_of_getElem? (i := 167) rfl) rfl
theorem km_X12_316 : (Cond.methodLink RX12 316 yX12_asks) ∈ TT := tt_6 (List.mem_of_getElem? (i := 168) rfl) rfl
theorem ki_X12_asks : (Cond.instanceMethod yX12_asks) ∈ TT := tt_6 (List.mem_of_getElem? (i := 170) rfl) rfl
theorem kc_X12_asks : (Cond.code yX12_asks prog_14_method_28_code 2 (Option.none : Option Jvm.ClassFile.FieldType)) ∈ TT := tt_6 (List.mem_of_getElem? (i := 171) rfl) rfl
theorem km_X12_252 : (Cond.methodLink RX12 252 yX12_isWord) ∈ TT := tt_6 (List.mem_of_getElem? (i := 172) rfl) rfl
theorem ki_X12_isWord : (Cond.instanceMethod yX12_isWord) ∈ TT := tt_6 (List.mem_of_getElem? (i := 174) rfl) rfl
theorem kc_X12_isWord : (Cond.code yX12_isWord prog_14_method_19_code 2 (Option.some Jvm.ClassFile.FieldType.boolean)) ∈ TT := tt_6 (List.mem_of_getElem? (i := 175) rfl) rfl
theorem km_X12_255 : (Cond.methodLink RX12 255 yX12_opensSign) ∈ TT := tt_6 (List.mem_of_getElem? (i := 176) rfl) rfl
theorem ki_X12_opensSign : (Cond.instanceMethod yX12_opensSign) ∈ TT := tt_6 (List.mem_of_getElem? (i := 178) rfl) rfl
theorem kc_X12_opensSign : (Cond.code yX12_opensSign prog_14_method_24_code 2 (Option.some Jvm.ClassFile.FieldType.boolean)) ∈ TT := tt_6 (List.mem_of_getElem? (i := 179) rfl) rfl
theorem km_X12_230 : (Cond.methodLink RX12 230 yX12_errs) ∈ TT := tt_6 (List.mem_of_getElem? (i := 180) rfl) rfl
theorem ki_X12_errs : (Cond.instanceMethod yX12_errs) ∈ TT := tt_6 (List.mem_of_getElem? (i := 182) rfl) rfl
theorem kc_X12_errs : (Cond.code yX12_errs prog_14_method_20_code 2 (Option.none : Option Jvm.ClassFile.FieldType)) ∈ TT := tt_6 (List.mem_of_getElem? (i := 183) rfl) rfl
theorem km_X12_233 : (Cond.methodLink RX12 233 yX12_opensFrame) ∈ TT := tt_6 (List.mem_of_getElem? (i := 184) rfl) rfl
theorem ki_X12_opensFrame : (Cond.instanceMethod yX12_opensFrame) ∈ TT := tt_6 (List.mem_of_getElem? (i := 186) rfl) rfl
theorem kc_X12_opensFrame : (Cond.code yX12_opensFrame prog_14_method_22_code 2 (Option.none : Option Jvm.ClassFile.FieldType)) ∈ TT := tt_6 (List.mem_of_getElem? (i := 187) rfl) rfl
theorem km_X12_319 : (Cond.methodLink RX12 319 yX12_begins) ∈ TT := tt_6 (List.mem_of_getElem? (i := 188) rfl) rfl
theorem ki_X12_begins : (Cond.instanceMethod yX12_begins) ∈ TT := tt_6 (List.mem_of_getElem? (i := 190) rfl) rfl
theorem kc_X12_begins : (Cond.code yX12_begins prog_14_method_31_code 3 (Option.none : Option Jvm.ClassFile.FieldType)) ∈ TT := tt_6 (List.mem_of_getElem? (i := 191) rfl) rfl
theorem km_X12_261 : (Cond.methodLink RX12 261 yX12_nameNow) ∈ TT := tt_6 (List.mem_of_getElem? (i := 192) rfl) rfl
theorem ki_X12_nameNow : (Cond.instanceMethod yX12_nameNow) ∈ TT := tt_6 (List.mem_of_getElem? (i := 194) rfl) rfl
theorem kc_X12_nameNow : (Cond.code yX12_nameNow prog_14_method_30_code 1 (Option.some Jvm.ClassFile.FieldType.int)) ∈ TT := tt_6 (List.mem_of_getElem? (i := 195) rfl) rfl
theorem km_X12_246 : (Cond.methodLink RX12 246 yX12_emits) ∈ TT := tt_6 (List.mem_of_getElem? (i := 196) rfl) rfl
theorem ki_X12_emits : (Cond.instanceMethod yX12_emits) ∈ TT := tt_6 (List.mem_of_getElem? (i := 198) rfl) rfl
theorem kc_X12_emits : (Cond.code yX12_emits prog_14_method_21_code 3 (Option.none : Option Jvm.ClassFile.FieldType)) ∈ TT := tt_6 (List.mem_of_getElem? (i := 199) rfl) rfl
theorem km_X12_265 : (Cond.methodLink RX12 265 yX12_oneIsOver) ∈ TT := tt_6 (List.mem_of_getElem? (i := 200) rfl) rfl
theorem ki_X12_oneIsOver : (Cond.instanceMethod yX12_oneIsOver) ∈ TT := tt_6 (List.mem_of_getElem? (i := 202) rfl) rfl
theorem kc_X12_oneIsOver : (Cond.code yX12_oneIsOver prog_14_method_32_code 1 (Option.none : Option Jvm.ClassFile.FieldType)) ∈ TT := tt_6 (List.mem_of_getElem? (i := 203) rfl) rfl
theorem km_X12_278 : (Cond.methodLink RX12 278 yX12_top) ∈ TT := tt_6 (List.mem_of_getElem? (i := 204) rfl) rfl
theorem ki_X12_top : (Cond.instanceMethod yX12_top) ∈ TT := tt_6 (List.mem_of_getElem? (i := 206) rfl) rfl
theorem kc_X12_top : (Cond.code yX12_top prog_14_method_23_code 1 (Option.some Jvm.ClassFile.FieldType.int)) ∈ TT := tt_6 (List.mem_of_getElem? (i := 207) rfl) rfl
theorem km_X12_281 : (Cond.methodLink RX12 281 yX12_bySecond) ∈ TT := tt_6 (List.mem_of_getElem? (i := 208) rfl) rfl
theorem ki_X12_bySecond : (Cond.instanceMethod yX12_bySecond) ∈ TT := tt_6 (List.mem_of_getElem? (i := 210) rfl) rfl
theorem kc_X12_bySecond : (Cond.code yX12_bySecond prog_14_method_33_code 1 (Option.none : Option Jvm.ClassFile.FieldType)) ∈ TT := tt_6 (List.mem_of_getElem? (i := 211) rfl) rfl
theorem km_X12_271 : (Cond.methodLink RX12 271 yX12_mayName) ∈ TT := tt_6 (List.mem_of_getElem? (i := 212) rfl) rfl
theorem kt_X12_mayName : (Cond.static yX12_mayName) ∈ TT := tt_6 (List.mem_of_getElem? (i := 213) rfl) rfl
theorem kc_X12_mayName : (Cond.code yX12_mayName prog_14_method_29_code 2 (Option.some Jvm.ClassFile.FieldType.boolean)) ∈ TT := tt_6 (List.mem_of_getElem? (i := 214) rfl) rfl
theorem km_X12_275 : (Cond.methodLink RX12 275 yX12_isSign) ∈ TT := tt_6 (List.mem_of_getElem? (i := 215) rfl) rfl
theorem ki_X12_isSign : (Cond.instanceMethod yX12_isSign) ∈ TT := tt_6 (List.mem_of_getElem? (i := 217) rfl) rfl
theorem kc_X12_isSign : (Cond.code yX12_isSign prog_14_method_18_code 2 (Option.some Jvm.ClassFile.FieldType.boolean)) ∈ TT := tt_6 (List.mem_of_getElem? (i := 218) rfl) rfl
theorem km_X12_322 : (Cond.methodLink RX12 322 yX12_goesOn) ∈ TT := tt_6 (List.mem_of_getElem? (i := 219) rfl) rfl
theorem ki_X12_goesOn : (Cond.instanceMethod yX12_goesOn) ∈ TT := tt_6 (List.mem_of_getElem? (i := 221) rfl) rfl
theorem kc_X12_goesOn : (Cond.code yX12_goesOn prog_14_method_37_code 3 (Option.none : Option Jvm.ClassFile.FieldType)) ∈ TT := tt_6 (List.mem_of_getElem? (i := 222) rfl) rfl
theorem km_X12_284 : (Cond.methodLink RX12 284 yX12_waitsFor) ∈ TT := tt_6 (List.mem_of_getElem? (i := 223) rfl) rfl
theorem ki_X12_waitsFor : (Cond.instanceMethod yX12_waitsFor) ∈ TT := tt_6 (List.mem_of_getElem? (i := 225) rfl) rfl
theorem kc_X12_waitsFor : (Cond.code yX12_waitsFor prog_14_method_27_code 2 (Option.none : Option Jvm.ClassFile.FieldType)) ∈ TT := tt_6 (List.mem_of_getElem? (i := 226) rfl) rfl
theorem km_X12_242 : (Cond.methodLink RX12 242 yX12_rank) ∈ TT := tt_6 (List.mem_of_getElem? (i := 227) rfl) rfl
theorem kt_X12_rank : (Cond.static yX12_rank) ∈ TT := tt_6 (List.mem_of_getElem? (i := 228) rfl) rfl
theorem kc_X12_rank : (Cond.code yX12_rank prog_14_method_25_code 1 (Option.some Jvm.ClassFile.FieldType.int)) ∈ TT := tt_6 (List.mem_of_getElem? (i := 229) rfl) rfl
theorem km_X12_249 : (Cond.methodLink RX12 249 yX12_works) ∈ TT := tt_6 (List.mem_of_getElem? (i := 230) rfl) rfl
theorem ki_X12_works : (Cond.instanceMethod yX12_works) ∈ TT := tt_6 (List.mem_of_getElem? (i := 232) rfl) rfl
theorem kc_X12_works : (Cond.code yX12_works prog_14_method_26_code 2 (Option.none : Option Jvm.ClassFile.FieldType)) ∈ TT := tt_6 (List.mem_of_getElem? (i := 233) rfl) rfl
theorem km_X12_287 : (Cond.methodLink RX12 287 yX12_turnsTo) ∈ TT := tt_6 (List.mem_of_getElem? (i := 234) rfl) rfl
theorem ki_X12_turnsTo : (Cond.instanceMethod yX12_turnsTo) ∈ TT := tt_6 (List.mem_of_getElem? (i := 236) rfl) rfl
theorem kc_X12_turnsTo : (Cond.code yX12_turnsTo prog_14_method_36_code 4 (Option.none : Option Jvm.ClassFile.FieldType)) ∈ TT := tt_6 (List.mem_of_getElem? (i := 237) rfl) rfl
theorem km_X12_290 : (Cond.methodLink RX12 290 yX12_isAsking) ∈ TT := tt_6 (List.mem_of_getElem? (i := 238) rfl) rfl
theorem kt_X12_isAsking : (Cond.static yX12_isAsking) ∈ TT := tt_6 (List.mem_of_getElem? (i := 239) rfl) rfl
theorem kc_X12_isAsking : (Cond.code yX12_isAsking prog_14_method_35_code 1 (Option.some Jvm.ClassFile.FieldType.boolean)) ∈ TT := tt_7 (List.mem_of_getElem? (i := 0) rfl) rfl
theorem km_X12_293 : (Cond.methodLink RX12 293 yX12_askIsOver) ∈ TT := tt_7 (List.mem_of_getElem? (i := 1) rfl) rfl
theorem ki_X12_askIsOver : (Cond.instanceMethod yX12_askIsOver) ∈ TT := tt_7 (List.mem_of_getElem? (i := 3) rfl) rfl
theorem kc_X12_askIsOver : (Cond.code yX12_askIsOver prog_14_method_34_code 1 (Option.none : Option Jvm.ClassFile.FieldType)) ∈ TT := tt_7 (List.mem_of_getElem? (i := 4) rfl) rfl
theorem km_X12_296 : (Cond.methodLink RX12 296 yX12_clauseIsOver) ∈ TT := tt_7 (List.mem_of_getElem? (i := 5) rfl) rfl
theorem ki_X12_clauseIsOver : (Cond.instanceMethod yX12_clauseIsOver) ∈ TT := tt_7 (List.mem_of_getElem? (i := 7) rfl) rfl
theorem kc_X12_clauseIsOver : (Cond.code yX12_clauseIsOver prog_14_method_39_code 1 (Option.none : Option Jvm.ClassFile.FieldType)) ∈ TT := tt_7 (List.mem_of_getElem? (i := 8) rfl) rfl
theorem km_X12_325 : (Cond.methodLink RX12 325 yX12_asksOn) ∈ TT := tt_7 (List.mem_of_getElem? (i := 9) rfl) rfl
theorem ki_X12_asksOn : (Cond.instanceMethod yX12_asksOn) ∈ TT := tt_7 (List.mem_of_getElem? (i := 11) rfl) rfl
theorem kc_X12_asksOn : (Cond.code yX12_asksOn prog_14_method_38_code 1 (Option.none : Option Jvm.ClassFile.FieldType)) ∈ TT := tt_7 (List.mem_of_getElem? (i := 12) rfl) rfl
theorem km_X12_328 : (Cond.methodLink RX12 328 yX12_clause) ∈ TT := tt_7 (List.mem_of_getElem? (i := 13) rfl) rfl
theorem ki_X12_clause : (Cond.instanceMethod yX12_clause) ∈ TT := tt_7 (List.mem_of_getElem? (i := 15) rfl) rfl
theorem kc_X12_clause : (Cond.code yX12_clause prog_14_method_44_code 1 (Option.none : Option Jvm.ClassFile.FieldType)) ∈ TT := tt_7 (List.mem_of_getElem? (i := 16) rfl) rfl
theorem km_X12_310 : (Cond.methodLink RX12 310 yX12_wasTold) ∈ TT := tt_7 (List.mem_of_getElem? (i := 17) rfl) rfl
theorem ki_X12_wasTold : (Cond.instanceMethod yX12_wasTold) ∈ TT := tt_7 (List.mem_of_getElem? (i := 19) rfl) rfl
theorem kc_X12_wasTold : (Cond.code yX12_wasTold prog_14_method_41_code 4 (Option.some Jvm.ClassFile.FieldType.boolean)) ∈ TT := tt_7 (List.mem_of_getElem? (i := 20) rfl) rfl
theorem km_X12_313 : (Cond.methodLink RX12 313 yX12_doing) ∈ TT := tt_7 (List.mem_of_getElem? (i := 21) rfl) rfl
theorem ki_X12_doing : (Cond.instanceMethod yX12_doing) ∈ TT := tt_7 (List.mem_of_getElem? (i := 23) rfl) rfl
theorem kc_X12_doing : (Cond.code yX12_doing prog_14_method_43_code 4 (Option.none : Option Jvm.ClassFile.FieldType)) ∈ TT := tt_7 (List.mem_of_getElem? (i := 24) rfl) rfl
theorem km_X12_302 : (Cond.methodLink RX12 302 yX12_number) ∈ TT := tt_7 (List.mem_of_getElem? (i := 25) rfl) rfl
theorem ki_X12_number : (Cond.instanceMethod yX12_number) ∈ TT := tt_7 (List.mem_of_getElem? (i := 27) rfl) rfl
theorem kc_X12_number : (Cond.code yX12_number prog_14_method_40_code 4 (Option.some Jvm.ClassFile.FieldType.int)) ∈ TT := tt_7 (List.mem_of_getElem? (i := 28) rfl) rfl
theorem km_X12_306 : (Cond.methodLink RX12 306 yX12_numberBehind) ∈ TT := tt_7 (List.mem_of_getElem? (i := 29) rfl) rfl
theorem ki_X12_numberBehind : (Cond.instanceMethod yX12_numberBehind) ∈ TT := tt_7 (List.mem_of_getElem? (i := 31) rfl) rfl
theorem kc_X12_numberBehind : (Cond.code yX12_numberBehind prog_14_method_42_code 4 (Option.some Jvm.ClassFile.FieldType.int)) ∈ TT := tt_7 (List.mem_of_getElem? (i := 32) rfl) rfl
theorem km_L_66 : (Cond.methodLink RL 66 yX12_fault) ∈ TT := tt_7 (List.mem_of_getElem? (i := 33) rfl) rfl
theorem ki_X12_fault : (Cond.instanceMethod yX12_fault) ∈ TT := tt_7 (List.mem_of_getElem? (i := 34) rfl) rfl
theorem ks_X12_fault : (Cond.selects RX12 yX12_fault yX12_fault) ∈ TT := tt_7 (List.mem_of_getElem? (i := 35) rfl) rfl
theorem kc_X12_fault : (Cond.code yX12_fault prog_14_method_46_code 2 (Option.some Jvm.ClassFile.FieldType.int)) ∈ TT := tt_7 (List.mem_of_getElem? (i := 36) rfl) rfl
theorem km_L_71 : (Cond.methodLink RL 71 yX12_by) ∈ TT := tt_7 (List.mem_of_getElem? (i := 37) rfl) rfl
theorem ki_X12_by : (Cond.instanceMethod yX12_by) ∈ TT := tt_7 (List.mem_of_getElem? (i := 38) rfl) rfl
theorem ks_X12_by : (Cond.selects RX12 yX12_by yX12_by) ∈ TT := tt_7 (List.mem_of_getElem? (i := 39) rfl) rfl
theorem kc_X12_by : (Cond.code yX12_by prog_14_method_54_code 2 (Option.some Jvm.ClassFile.FieldType.boolean)) ∈ TT := tt_7 (List.mem_of_getElem? (i := 40) rfl) rfl
theorem km_L_22 : (Cond.methodLink RL 22 yX12_bow) ∈ TT := tt_7 (List.mem_of_getElem? (i := 41) rfl) rfl
theorem ki_X12_bow : (Cond.instanceMethod yX12_bow) ∈ TT := tt_7 (List.mem_of_getElem? (i := 42) rfl) rfl
theorem ks_X12_bow : (Cond.selects RX12 yX12_bow yX12_bow) ∈ TT := tt_7 (List.mem_of_getElem? (i := 43) rfl) rfl
theorem kc_X12_bow : (Cond.code yX12_bow prog_14_method_75_code 3 (Option.some Jvm.ClassFile.FieldType.int)) ∈ TT := tt_7 (List.mem_of_getElem? (i := 44) rfl) rfl
theorem km_X12_409 : (Cond.methodLink RX12 409 yX12_areTwo) ∈ TT := tt_7 (List.mem_of_getElem? (i := 45) rfl) rfl
theorem ki_X12_areTwo : (Cond.instanceMethod yX12_areTwo) ∈ TT := tt_7 (List.mem_of_getElem? (i := 47) rfl) rfl
theorem kc_X12_areTwo : (Cond.code yX12_areTwo prog_14_method_7_code 3 (Option.some Jvm.ClassFile.FieldType.boolean)) ∈ TT := tt_7 (List.mem_of_getElem? (i := 48) rfl) rfl
theorem km_X12_111 : (Cond.methodLink RX12 111 yX12_isOne) ∈ TT := tt_7 (List.mem_of_getElem? (i := 49) rfl) rfl
theorem ki_X12_isOne : (Cond.instanceMethod yX12_isOne) ∈ TT := tt_7 (List.mem_of_getElem? (i := 51) rfl) rfl
theorem kc_X12_isOne : (Cond.code yX12_isOne prog_14_method_6_code 2 (Option.some Jvm.ClassFile.FieldType.boolean)) ∈ TT := tt_7 (List.mem_of_getElem? (i := 52) rfl) rfl
theorem km_X12_399 : (Cond.methodLink RX12 399 yX12_laysNow) ∈ TT := tt_7 (List.mem_of_getElem? (i := 53) rfl) rfl
theorem ki_X12_laysNow : (Cond.instanceMethod yX12_laysNow) ∈ TT := tt_7 (List.mem_of_getElem? (i := 55) rfl) rfl
theorem kc_X12_laysNow : (Cond.code yX12_laysNow prog_14_method_47_code 2 (Option.none : Option Jvm.ClassFile.FieldType)) ∈ TT := tt_7 (List.mem_of_getElem? (i := 56) rfl) rfl
theorem km_X12_412 : (Cond.methodLink RX12 412 yX12_canBow) ∈ TT := tt_7 (List.mem_of_getElem? (i := 57) rfl) rfl
theorem ki_X12_canBow : (Cond.instanceMethod yX12_canBow) ∈ TT := tt_7 (List.mem_of_getElem? (i := 59) rfl) rfl
theorem kc_X12_canBow : (Cond.code yX12_canBow prog_14_method_64_code 3 (Option.some Jvm.ClassFile.FieldType.boolean)) ∈ TT := tt_7 (List.mem_of_getElem? (i := 60) rfl) rfl
theorem km_X12_372 : (Cond.methodLink RX12 372 yX12_doMeet) ∈ TT := tt_7 (List.mem_of_getElem? (i := 61) rfl) rfl
theorem ki_X12_doMeet : (Cond.instanceMethod yX12_doMeet) ∈ TT := tt_7 (List.mem_of_getElem? (i := 63) rfl) rfl
theorem kc_X12_doMeet : (Cond.code yX12_doMeet prog_14_method_63_code 3 (Option.some Jvm.ClassFile.FieldType.boolean)) ∈ TT := tt_7 (List.mem_of_getElem? (i := 64) rfl) rfl
theorem km_X12_369 : (Cond.methodLink RX12 369 yX12_isOut) ∈ TT := tt_7 (List.mem_of_getElem? (i := 65) rfl) rfl
theorem ki_X12_isOut : (Cond.instanceMethod yX12_isOut) ∈ TT := tt_7 (List.mem_of_getElem? (i := 67) rfl) rfl
theorem kc_X12_isOut : (Cond.code yX12_isOut prog_14_method_62_code 2 (Option.some Jvm.ClassFile.FieldType.boolean)) ∈ TT := tt_7 (List.mem_of_getElem? (i := 68) rfl) rfl
theorem km_X12_375 : (Cond.methodLink RX12 375 yX12_sizeOf) ∈ TT := tt_7 (List.mem_of_getElem? (i := 69) rfl) rfl
theorem ki_X12_sizeOf : (Cond.instanceMethod yX12_sizeOf) ∈ TT := tt_7 (List.mem_of_getElem? (i := 71) rfl) rfl
theorem kc_X12_sizeOf : (Cond.code yX12_sizeOf prog_14_method_58_code 4 (Option.some Jvm.ClassFile.FieldType.int)) ∈ TT := tt_7 (List.mem_of_getElem? (i := 72) rfl) rfl
theorem km_X12_353 : (Cond.methodLink RX12 353 yX12_ordersOf) ∈ TT := tt_7 (List.mem_of_getElem? (i := 73) rfl) rfl
theorem ki_X12_ordersOf : (Cond.instanceMethod yX12_ordersOf) ∈ TT := tt_7 (List.mem_of_getElem? (i := 75) rfl) rfl
theorem kc_X12_ordersOf : (Cond.code yX12_ordersOf prog_14_method_55_code 5 (Option.some Jvm.ClassFile.FieldType.int)) ∈ TT := tt_7 (List.mem_of_getElem? (i := 76) rfl) rfl
theorem km_X12_356 : (Cond.methodLink RX12 356 yX12_namesOf) ∈ TT := tt_7 (List.mem_of_getElem? (i := 77) rfl) rfl
theorem ki_X12_namesOf : (Cond.instanceMethod yX12_namesOf) ∈ TT := tt_7 (List.mem_of_getElem? (i := 79) rfl) rfl
theorem kc_X12_namesOf : (Cond.code yX12_namesOf prog_14_method_57_code 3 (Option.none : Option Jvm.ClassFile.FieldType)) ∈ TT := tt_7 (List.mem_of_getElem? (i := 80) rfl) rfl
theorem km_X12_350 : (Cond.methodLink RX12 350 yX12_names) ∈ TT := tt_7 (List.mem_of_getElem? (i := 81) rfl) rfl
theorem ki_X12_names : (Cond.instanceMethod yX12_names) ∈ TT := tt_7 (List.mem_of_getElem? (i := 83) rfl) rfl
theorem kc_X12_names : (Cond.code yX12_names prog_14_method_56_code 2 (Option.none : Option Jvm.ClassFile.FieldType)) ∈ TT := tt_7 (List.mem_of_getElem? (i := 84) rfl) rfl
theorem km_X12_335 : (Cond.methodLink RX12 335 yX12_debtAt) ∈ TT := tt_7 (List.mem_of_getElem? (i := 85) rfl) rfl
theorem kt_X12_debtAt : (Cond.static yX12_debtAt) ∈ TT := tt_7 (List.mem_of_getElem? (i := 86) rfl) rfl
theorem kc_X12_debtAt : (Cond.code yX12_debtAt prog_14_method_49_code 2 (Option.some Jvm.ClassFile.FieldType.int)) ∈ TT := tt_7 (List.mem_of_getElem? (i := 87) rfl) rfl
theorem km_X12_359 : (Cond.methodLink RX12 359 yX12_saysOf) ∈ TT := tt_7 (List.mem_of_getElem? (i := 88) rfl) rfl
theorem ki_X12_saysOf : (Cond.instanceMethod yX12_saysOf) ∈ TT := tt_7 (List.mem_of_getElem? (i := 90) rfl) rfl
theorem kc_X12_saysOf : (Cond.code yX12_saysOf prog_14_method_53_code 5 (Option.some Jvm.ClassFile.FieldType.long)) ∈ TT := tt_7 (List.mem_of_getElem? (i := 91) rfl) rfl
theorem km_X12_346 : (Cond.methodLink RX12 346 yX12_worked) ∈ TT := tt_7 (List.mem_of_getElem? (i := 92) rfl) rfl
theorem ki_X12_worked : (Cond.instanceMethod yX12_worked) ∈ TT := tt_7 (List.mem_of_getElem? (i := 94) rfl) rfl
theorem kc_X12_worked : (Cond.code yX12_worked prog_14_method_52_code 6 (Option.some Jvm.ClassFile.FieldType.long)) ∈ TT := tt_7 (List.mem_of_getElem? (i := 95) rfl) rfl
theorem km_X12_338 : (Cond.methodLink RX12 338 yX12_bound) ∈ TT := tt_7 (List.mem_of_getElem? (i := 96) rfl) rfl
theorem kt_X12_bound : (Cond.static yX12_bound) ∈ TT := tt_7 (List.mem_of_getElem? (i := 97) rfl) rfl
theorem kc_X12_bound : (Cond.code yX12_bound prog_14_method_50_code 2 (Option.some Jvm.ClassFile.FieldType.long)) ∈ TT := tt_7 (List.mem_of_getElem? (i := 98) rfl) rfl
theorem kk_X12_331 : (Cond.constantLong RX12 331 (1000000 : Int64)) ∈ TT := tt_7 (List.mem_of_getElem? (i := 99) rfl) rfl
theorem kk_X12_333 : (Cond.constantLong RX12 333 (-1000000 : Int64)) ∈ TT := tt_7 (List.mem_of_getElem? (i := 100) rfl) rfl
theorem km_X12_342 : (Cond.methodLink RX12 342 yX12_owedBy) ∈ TT := tt_7 (List.mem_of_getElem? (i := 101) rfl) rfl
theorem ki_X12_owedBy : (Cond.instanceMethod yX12_owedBy) ∈ TT := tt_7 (List.mem_of_getElem? (i := 103) rfl) rfl
theorem kc_X12_owedBy : (Cond.code yX12_owedBy prog_14_method_51_code 6 (Option.some Jvm.ClassFile.FieldType.long)) ∈ TT := tt_7 (List.mem_of_getElem? (i := 104) rfl) rfl
theorem km_X12_363 : (Cond.methodLink RX12 363 yX12_held) ∈ TT := tt_7 (List.mem_of_getElem? (i := 105) rfl) rfl
theorem kt_X12_held : (Cond.static yX12_held) ∈ TT := tt_7 (List.mem_of_getElem? (i := 106) rfl) rfl
theorem kc_X12_held : (Cond.code yX12_held prog_14_method_4_code 4 (Option.some Jvm.ClassFile.FieldType.int)) ∈ TT := tt_7 (List.mem_of_getElem? (i := 107) rfl) rfl
theorem km_X12_415 : (Cond.methodLink RX12 415 yX12_keepsStep) ∈ TT := tt_7 (List.mem_of_getElem? (i := 108) rfl) rfl
theorem ki_X12_keepsStep : (Cond.instanceMethod yX12_keepsStep) ∈ TT := tt_7 (List.mem_of_getElem? (i := 110) rfl) rfl
theorem kc_X12_keepsStep : (Cond.code yX12_keepsStep prog_14_method_10_code 2 (Option.none : Option Jvm.ClassFile.FieldType)) ∈ TT := tt_7 (List.mem_of_getElem? (i := 111) rfl) rfl
theorem km_X12_418 : (Cond.methodLink RX12 418 yX12_bows) ∈ TT := tt_7 (List.mem_of_getElem? (i := 112) rfl) rfl
theorem ki_X12_bows : (Cond.instanceMethod yX12_bows) ∈ TT := tt_7 (List.mem_of_getElem? (i := 114) rfl) rfl
theorem kc_X12_bows : (Cond.code yX12_bows prog_14_method_65_code 5 (Option.none : Option Jvm.ClassFile.FieldType)) ∈ TT := tt_7 (List.mem_of_getElem? (i := 115) rfl) rfl
theorem km_X12_378 : (Cond.methodLink RX12 378 yX12_moreOf) ∈ TT := tt_7 (List.mem_of_getElem? (i := 116) rfl) rfl
theorem ki_X12_moreOf : (Cond.instanceMethod yX12_moreOf) ∈ TT := tt_7 (List.mem_of_getElem? (i := 118) rfl) rfl
theorem kc_X12_moreOf : (Cond.code yX12_moreOf prog_14_method_59_code 5 (Option.some Jvm.ClassFile.FieldType.int)) ∈ TT := tt_7 (List.mem_of_getElem? (i := 119) rfl) rfl
theorem km_X12_421 : (Cond.methodLink RX12 421 yX12_keepsNow) ∈ TT := tt_7 (List.mem_of_getElem? (i := 120) rfl) rfl
theorem ki_X12_keepsNow : (Cond.instanceMethod yX12_keepsNow) ∈ TT := tt_7 (List.mem_of_getElem? (i := 122) rfl) rfl
theorem kc_X12_keepsNow : (Cond.code yX12_keepsNow prog_14_method_48_code 2 (Option.none : Option Jvm.ClassFile.FieldType)) ∈ TT := tt_7 (List.mem_of_getElem? (i := 123) rfl) rfl
theorem km_L_27 : (Cond.methodLink RL 27 yX12_owe) ∈ TT := tt_7 (List.mem_of_getElem? (i := 124) rfl) rfl
theorem ki_X12_owe : (Cond.instanceMethod yX12_owe) ∈ TT := tt_7 (List.mem_of_getElem? (i := 125) rfl) rfl
theorem ks_X12_owe : (Cond.selects RX12 yX12_owe yX12_owe) ∈ TT := tt_7 (List.mem_of_getElem? (i := 126) rfl) rfl
theorem kc_X12_owe : (Cond.code yX12_owe prog_14_method_76_code 4 (Option.some Jvm.ClassFile.FieldType.boolean)) ∈ TT := tt_7 (List.mem_of_getElem? (i := 127) rfl) rfl
theorem km_L_31 : (Cond.methodLink RL 31 yX12_walk) ∈ TT := tt_7 (List.mem_of_getElem? (i := 128) rfl) rfl
theorem ki_X12_walk : (Cond.instanceMethod yX12_walk) ∈ TT := tt_7 (List.mem_of_getElem? (i := 129) rfl) rfl
theorem ks_X12_walk : (Cond.selects RX12 yX12_walk yX12_walk) ∈ TT := tt_7 (List.mem_of_getElem? (i := 130) rfl) rfl
theorem kc_X12_walk : (Cond.code yX12_walk prog_14_method_77_code 3 (Option.some Jvm.ClassFile.FieldType.int)) ∈ TT := tt_7 (List.mem_of_getElem? (i := 131) rfl) rfl
theorem km_X12_424 : (Cond.methodLink RX12 424 yX12_walks) ∈ TT := tt_7 (List.mem_of_getElem? (i := 132) rfl) rfl
theorem ki_X12_walks : (Cond.instanceMethod yX12_walks) ∈ TT := tt_7 (List.mem_of_getElem? (i := 134) rfl) rfl
theorem kc_X12_walks : (Cond.code yX12_walks prog_14_method_66_code 3 (Option.none : Option Jvm.ClassFile.FieldType)) ∈ TT := tt_7 (List.mem_of_getElem? (i := 135) rfl) rfl
theorem km_L_36 : (Cond.methodLink RL 36 yX12_feast) ∈ TT := tt_7 (List.mem_of_getElem? (i := 136) rfl) rfl
theorem ki_X12_feast : (Cond.instanceMethod yX12_feast) ∈ TT := tt_7 (List.mem_of_getElem? (i := 137) rfl) rfl
theorem ks_X12_feast : (Cond.selects RX12 yX12_feast yX12_feast) ∈ TT := tt_7 (List.mem_of_getElem? (i := 138) rfl) rfl
theorem kc_X12_feast : (Cond.code yX12_feast prog_14_method_78_code 2 (Option.some Jvm.ClassFile.FieldType.int)) ∈ TT := tt_7 (List.mem_of_getElem? (i := 139) rfl) rfl
theorem km_X12_427 : (Cond.methodLink RX12 427 yX12_feasts) ∈ TT := tt_7 (List.mem_of_getElem? (i := 140) rfl) rfl
theorem ki_X12_feasts : (Cond.instanceMethod yX12_feasts) ∈ TT := tt_7 (List.mem_of_getElem? (i := 142) rfl) rfl
theorem kc_X12_feasts : (Cond.code yX12_feasts prog_14_method_67_code 5 (Option.some Jvm.ClassFile.FieldType.int)) ∈ TT := tt_7 (List.mem_of_getElem? (i := 143) rfl) rfl
theorem km_L_40 : (Cond.methodLink RL 40 yX12_clear) ∈ TT := tt_7 (List.mem_of_getElem? (i := 144) rfl) rfl
theorem ki_X12_clear : (Cond.instanceMethod yX12_clear) ∈ TT := tt_7 (List.mem_of_getElem? (i := 145) rfl) rfl
theorem ks_X12_clear : (Cond.selects RX12 yX12_clear yX12_clear) ∈ TT := tt_7 (List.mem_of_getElem? (i := 146) rfl) rfl
theorem kc_X12_clear : (Cond.code yX12_clear prog_14_method_79_code 5 (Option.some Jvm.ClassFile.FieldType.int)) ∈ TT := tt_7 (List.mem_of_getElem? (i := 147) rfl) rfl
theorem km_L_45 : (Cond.methodLink RL 45 yX12_hour) ∈ TT := tt_7 (List.mem_of_getElem? (i := 148) rfl) rfl
theorem ki_X12_hour : (Cond.instanceMethod yX12_hour) ∈ TT := tt_7 (List.mem_of_getElem? (i := 149) rfl) rfl
theorem ks_X12_hour : (Cond.selects RX12 yX12_hour yX12_hour) ∈ TT := tt_7 (List.mem_of_getElem? (i := 150) rfl) rfl
theorem kc_X12_hour : (Cond.code yX12_hour prog_14_method_80_code 4 (Option.some Jvm.ClassFile.FieldType.int)) ∈ TT := tt_7 (List.mem_of_getElem? (i := 151) rfl) rfl
theorem km_X12_406 : (Cond.methodLink RX12 406 yX12_hourPasses) ∈ TT := tt_7 (List.mem_of_getElem? (i := 152) rfl) rfl
theorem ki_X12_hourPasses : (Cond.instanceMethod yX12_hourPasses) ∈ TT := tt_7 (List.mem_of_getElem? (i := 154) rfl) rfl
theorem kc_X12_hourPasses : (Cond.code yX12_hourPasses prog_14_method_73_code 1 (Option.some Jvm.ClassFile.FieldType.int)) ∈ TT := tt_7 (List.mem_of_getElem? (i := 155) rfl) rfl
theorem km_X12_396 : (Cond.methodLink RX12 396 yX12_dayBegins) ∈ TT := tt_7 (List.mem_of_getElem? (i := 156) rfl) rfl
theorem ki_X12_dayBegins : (Cond.instanceMethod yX12_dayBegins) ∈ TT := tt_7 (List.mem_of_getElem? (i := 158) rfl) rfl
theorem kc_X12_dayBegins : (Cond.code yX12_dayBegins prog_14_method_72_code 5 (Option.some Jvm.ClassFile.FieldType.int)) ∈ TT := tt_7 (List.mem_of_getElem? (i := 159) rfl) rfl
theorem km_X12_381 : (Cond.methodLink RX12 381 yX12_lateOf) ∈ TT := tt_7 (List.mem_of_getElem? (i := 160) rfl) rfl
theorem ki_X12_lateOf : (Cond.instanceMethod yX12_lateOf) ∈ TT := tt_7 (List.mem_of_getElem? (i := 162) rfl) rfl
theorem kc_X12_lateOf : (Cond.code yX12_lateOf prog_14_method_60_code 4 (Option.some Jvm.ClassFile.FieldType.int)) ∈ TT := tt_7 (List.mem_of_getElem? (i := 163) rfl) rfl
theorem km_X12_384 : (Cond.methodLink RX12 384 yX12_allOwedBy) ∈ TT := tt_7 (List.mem_of_getElem? (i := 164) rfl) rfl
theorem ki_X12_allOwedBy : (Cond.instanceMethod yX12_allOwedBy) ∈ TT := tt_7 (List.mem_of_getElem? (i := 166) rfl) rfl
theorem kc_X12_allOwedBy : (Cond.code yX12_allOwedBy prog_14_method_68_code 4 (Option.some Jvm.ClassFile.FieldType.int)) ∈ TT := tt_7 (List.mem_of_getElem? (i := 167) rfl) rfl
theorem km_X12_387 : (Cond.methodLink RX12 387 yX12_ruinOf) ∈ TT := tt_7 (List.mem_of_getElem? (i := 168) rfl) rfl
theorem ki_X12_ruinOf : (Cond.instanceMethod yX12_ruinOf) ∈ TT := tt_7 (List.mem_of_getElem? (i := 170) rfl) rfl
theorem kc_X12_ruinOf : (Cond.code yX12_ruinOf prog_14_method_61_code 3 (Option.some Jvm.ClassFile.FieldType.int)) ∈ TT := tt_7 (List.mem_of_getElem? (i := 171) rfl) rfl
theorem kk_X12_367 : (Cond.constantLong RX12 367 (300 : Int64)) ∈ TT := tt_7 (List.mem_of_getElem? (i := 172) rfl) rfl
theorem km_X12_390 : (Cond.methodLink RX12 390 yX12_writes) ∈ TT := tt_7 (List.mem_of_getElem? (i := 173) rfl) rfl
theorem ki_X12_writes : (Cond.instanceMethod yX12_writes) ∈ TT := tt_7 (List.mem_of_getElem? (i := 175) rfl) rfl
theorem kc_X12_writes : (Cond.code yX12_writes prog_14_method_70_code 4 (Option.none : Option Jvm.ClassFile.FieldType)) ∈ TT := tt_7 (List.mem_of_getElem? (i := 176) rfl) rfl
theorem km_L_49 : (Cond.methodLink RL 49 yX12_weeks) ∈ TT := tt_7 (List.mem_of_getElem? (i := 177) rfl) rfl
theorem ki_X12_weeks : (Cond.instanceMethod yX12_weeks) ∈ TT := tt_7 (List.mem_of_getElem? (i := 178) rfl) rfl
theorem ks_X12_weeks : (Cond.selects RX12 yX12_weeks yX12_weeks) ∈ TT := tt_7 (List.mem_of_getElem? (i := 179) rfl) rfl
theorem kc_X12_weeks : (Cond.code yX12_weeks prog_14_method_83_code 4 (Option.some Jvm.ClassFile.FieldType.int)) ∈ TT := tt_7 (List.mem_of_getElem? (i := 180) rfl) rfl
theorem km_X12_433 : (Cond.methodLink RX12 433 yX12_happens) ∈ TT := tt_7 (List.mem_of_getElem? (i := 181) rfl) rfl
theorem ki_X12_happens : (Cond.instanceMethod yX12_happens) ∈ TT := tt_7 (List.mem_of_getElem? (i := 183) rfl) rfl
theorem kc_X12_happens : (Cond.code yX12_happens prog_14_method_82_code 4 (Option.none : Option Jvm.ClassFile.FieldType)) ∈ TT := tt_7 (List.mem_of_getElem? (i := 184) rfl) rfl
theorem km_X12_430 : (Cond.methodLink RX12 430 yX12_draw) ∈ TT := tt_7 (List.mem_of_getElem? (i := 185) rfl) rfl
theorem ki_X12_draw : (Cond.instanceMethod yX12_draw) ∈ TT := tt_7 (List.mem_of_getElem? (i := 187) rfl) rfl
theorem kc_X12_draw : (Cond.code yX12_draw prog_14_method_81_code 3 (Option.some Jvm.ClassFile.FieldType.int)) ∈ TT := tt_7 (List.mem_of_getElem? (i := 188) rfl) rfl
theorem km_X12_402 : (Cond.methodLink RX12 402 yX12_canPass) ∈ TT := tt_7 (List.mem_of_getElem? (i := 189) rfl) rfl
theorem ki_X12_canPass : (Cond.instanceMethod yX12_canPass) ∈ TT := tt_7 (List.mem_of_getElem? (i := 191) rfl) rfl
theorem kc_X12_canPass : (Cond.code yX12_canPass prog_14_method_71_code 1 (Option.some Jvm.ClassFile.FieldType.boolean)) ∈ TT := tt_7 (List.mem_of_getElem? (i := 192) rfl) rfl
theorem km_L_75 : (Cond.methodLink RL 75 yX12_played) ∈ TT := tt_7 (List.mem_of_getElem? (i := 193) rfl) rfl
theorem ki_X12_played : (Cond.instanceMethod yX12_played) ∈ TT := tt_7 (List.mem_of_getElem? (i := 194) rfl) rfl
theorem ks_X12_played : (Cond.selects RX12 yX12_played yX12_played) ∈ TT := tt_7 (List.mem_of_getElem? (i := 195) rfl) rfl
theorem kc_X12_played : (Cond.code yX12_played prog_14_method_85_code 8 (Option.some Jvm.ClassFile.FieldType.int)) ∈ TT := tt_7 (List.mem_of_getElem? (i := 196) rfl) rfl
theorem km_X12_439 : (Cond.methodLink RX12 439 yX12_person) ∈ TT := tt_7 (List.mem_of_getElem? (i := 197) rfl) rfl
theorem km_X12_442 : (Cond.methodLink RX12 442 yX12_bow) ∈ TT := tt_7 (List.mem_of_getElem? (i := 198) rfl) rfl
theorem km_X12_445 : (Cond.methodLink RX12 445 yX12_owe) ∈ TT := tt_7 (List.mem_of_getElem? (i := 199) rfl) rfl
theorem km_X12_448 : (Cond.methodLink RX12 448 yX12_walk) ∈ TT := tt_7 (List.mem_of_getElem? (i := 200) rfl) rfl
theorem km_X12_451 : (Cond.methodLink RX12 451 yX12_clear) ∈ TT := tt_7 (List.mem_of_getElem? (i := 201) rfl) rfl
theorem km_X12_454 : (Cond.methodLink RX12 454 yX12_feast) ∈ TT := tt_7 (List.mem_of_getElem? (i := 202) rfl) rfl
theorem km_X12_457 : (Cond.methodLink RX12 457 yX12_hours) ∈ TT := tt_7 (List.mem_of_getElem? (i := 203) rfl) rfl
theorem ki_X12_hours : (Cond.instanceMethod yX12_hours) ∈ TT := tt_7 (List.mem_of_getElem? (i := 205) rfl) rfl
theorem kc_X12_hours : (Cond.code yX12_hours prog_14_method_84_code 3 (Option.some Jvm.ClassFile.FieldType.boolean)) ∈ TT := tt_7 (List.mem_of_getElem? (i := 206) rfl) rfl
theorem km_X12_436 : (Cond.methodLink RX12 436 yX12_hour) ∈ TT := tt_7 (List.mem_of_getElem? (i := 207) rfl) rfl
theorem km_L_83 : (Cond.methodLink RL 83 yX12_of) ∈ TT := tt_7 (List.mem_of_getElem? (i := 208) rfl) rfl
theorem ki_X12_of : (Cond.instanceMethod yX12_of) ∈ TT := tt_7 (List.mem_of_getElem? (i := 209) rfl) rfl
theorem ks_X12_of : (Cond.selects RX12 yX12_of yX12_of) ∈ TT := tt_7 (List.mem_of_getElem? (i := 210) rfl) rfl
theorem kc_X12_of : (Cond.code yX12_of prog_14_method_86_code 3 (Option.some Jvm.ClassFile.FieldType.int)) ∈ TT := tt_7 (List.mem_of_getElem? (i := 211) rfl) rfl
theorem km_X12_460 : (Cond.methodLink RX12 460 yX12_allOwedTo) ∈ TT := tt_7 (List.mem_of_getElem? (i := 212) rfl) rfl
theorem ki_X12_allOwedTo : (Cond.instanceMethod yX12_allOwedTo) ∈ TT := tt_7 (List.mem_of_getElem? (i := 214) rfl) rfl
theorem kc_X12_allOwedTo : (Cond.code yX12_allOwedTo prog_14_method_69_code 4 (Option.some Jvm.ClassFile.FieldType.int)) ∈ TT := tt_7 (List.mem_of_getElem? (i := 215) rfl) rfl
theorem km_L_87 : (Cond.methodLink RL 87 yX12_two) ∈ TT := tt_7 (List.mem_of_getElem? (i := 216) rfl) rfl
theorem ki_X12_two : (Cond.instanceMethod yX12_two) ∈ TT := tt_7 (List.mem_of_getElem? (i := 217) rfl) rfl
theorem ks_X12_two : (Cond.selects RX12 yX12_two yX12_two) ∈ TT := tt_7 (List.mem_of_getElem? (i := 218) rfl) rfl
theorem kc_X12_two : (Cond.code yX12_two prog_14_method_87_code 4 (Option.some Jvm.ClassFile.FieldType.int)) ∈ TT := tt_7 (List.mem_of_getElem? (i := 219) rfl) rfl
theorem km_L_91 : (Cond.methodLink RL 91 yX12_more) ∈ TT := tt_7 (List.mem_of_getElem? (i := 220) rfl) rfl
theorem ki_X12_more : (Cond.instanceMethod yX12_more) ∈ TT := tt_7 (List.mem_of_getElem? (i := 221) rfl) rfl
theorem ks_X12_more : (Cond.selects RX12 yX12_more yX12_more) ∈ TT := tt_7 (List.mem_of_getElem? (i := 222) rfl) rfl
theorem kc_X12_more : (Cond.code yX12_more prog_14_method_88_code 4 (Option.some Jvm.ClassFile.FieldType.int)) ∈ TT := tt_7 (List.mem_of_getElem? (i := 223) rfl) rfl
theorem km_L_95 : (Cond.methodLink RL 95 yX12_book) ∈ TT := tt_7 (List.mem_of_getElem? (i := 224) rfl) rfl
theorem ki_X12_book : (Cond.instanceMethod yX12_book) ∈ TT := tt_7 (List.mem_of_getElem? (i := 225) rfl) rfl
theorem ks_X12_book : (Cond.selects RX12 yX12_book yX12_book) ∈ TT := tt_7 (List.mem_of_getElem? (i := 226) rfl) rfl
theorem kc_X12_book : (Cond.code yX12_book prog_14_method_89_code 3 (Option.some Jvm.ClassFile.FieldType.int)) ∈ TT := tt_7 (List.mem_of_getElem? (i := 227) rfl) rfl
theorem km_L_99 : (Cond.methodLink RL 99 yX12_foretold) ∈ TT := tt_7 (List.mem_of_getElem? (i := 228) rfl) rfl
theorem ki_X12_foretold : (Cond.instanceMethod yX12_foretold) ∈ TT := tt_7 (List.mem_of_getElem? (i := 229) rfl) rfl
theorem ks_X12_foretold : (Cond.selects RX12 yX12_foretold yX12_foretold) ∈ TT := tt_7 (List.mem_of_getElem? (i := 230) rfl) rfl
theorem kc_X12_foretold : (Cond.code yX12_foretold prog_14_method_90_code 5 (Option.some Jvm.ClassFile.FieldType.int)) ∈ TT := tt_7 (List.mem_of_getElem? (i := 231) rfl) rfl
theorem km_X12_463 : (Cond.methodLink RX12 463 yX12_passesThrough) ∈ TT := tt_7 (List.mem_of_getElem? (i := 232) rfl) rfl
theorem ki_X12_passesThrough : (Cond.instanceMethod yX12_passesThrough) ∈ TT := tt_7 (List.mem_of_getElem? (i := 234) rfl) rfl
theorem kc_X12_passesThrough : (Cond.code yX12_passesThrough prog_14_method_74_code 4 (Option.some Jvm.ClassFile.FieldType.int)) ∈ TT := tt_7 (List.mem_of_getElem? (i := 235) rfl) rfl
theorem km_L_103 : (Cond.methodLink RL 103 yX12_indoors) ∈ TT := tt_7 (List.mem_of_getElem? (i := 236) rfl) rfl
theorem ki_X12_indoors : (Cond.instanceMethod yX12_indoors) ∈ TT := tt_7 (List.mem_of_getElem? (i := 237) rfl) rfl
theorem ks_X12_indoors : (Cond.selects RX12 yX12_indoors yX12_indoors) ∈ TT := tt_7 (List.mem_of_getElem? (i := 238) rfl) rfl
theorem kc_X12_indoors : (Cond.code yX12_indoors prog_14_method_91_code 4 (Option.some Jvm.ClassFile.FieldType.int)) ∈ TT := tt_7 (List.mem_of_getElem? (i := 239) rfl) rfl
theorem km_L_107 : (Cond.methodLink RL 107 yX12_first) ∈ TT := tt_8 (List.mem_of_getElem? (i := 0) rfl) rfl
theorem ki_X12_first : (Cond.instanceMethod yX12_first) ∈ TT := tt_8 (List.mem_of_getElem? (i := 1) rfl) rfl
theorem ks_X12_first : (Cond.selects RX12 yX12_first yX12_first) ∈ TT := tt_8 (List.mem_of_getElem? (i := 2) rfl) rfl
theorem kc_X12_first : (Cond.code yX12_first prog_14_method_92_code 3 (Option.some Jvm.ClassFile.FieldType.int)) ∈ TT := tt_8 (List.mem_of_getElem? (i := 3) rfl) rfl
theorem km_L_111 : (Cond.methodLink RL 111 yX12_whose) ∈ TT := tt_8 (List.mem_of_getElem? (i := 4) rfl) rfl
theorem ki_X12_whose : (Cond.instanceMethod yX12_whose) ∈ TT := tt_8 (List.mem_of_getElem? (i := 5) rfl) rfl
theorem ks_X12_whose : (Cond.selects RX12 yX12_whose yX12_whose) ∈ TT := tt_8 (List.mem_of_getElem? (i := 6) rfl) rfl
theorem kc_X12_whose : (Cond.code yX12_whose prog_14_method_93_code 7 (Option.some Jvm.ClassFile.FieldType.int)) ∈ TT := tt_8 (List.mem_of_getElem? (i := 7) rfl) rfl
theorem km_L_115 : (Cond.methodLink RL 115 yX12_route) ∈ TT := tt_8 (List.mem_of_getElem? (i := 8) rfl) rfl
theorem ki_X12_route : (Cond.instanceMethod yX12_route) ∈ TT := tt_8 (List.mem_of_getElem? (i := 9) rfl) rfl
theorem ks_X12_route : (Cond.selects RX12 yX12_route yX12_route) ∈ TT := tt_8 (List.mem_of_getElem? (i := 10) rfl) rfl
theorem kc_X12_route : (Cond.code yX12_route prog_14_method_97_code 8 (Option.some Jvm.ClassFile.FieldType.int)) ∈ TT := tt_8 (List.mem_of_getElem? (i := 11) rfl) rfl
theorem km_X12_472 : (Cond.methodLink RX12 472 yX12_placesOf) ∈ TT := tt_8 (List.mem_of_getElem? (i := 12) rfl) rfl
theorem ki_X12_placesOf : (Cond.instanceMethod yX12_placesOf) ∈ TT := tt_8 (List.mem_of_getElem? (i := 14) rfl) rfl
theorem kc_X12_placesOf : (Cond.code yX12_placesOf prog_14_method_94_code 6 (Option.some Jvm.ClassFile.FieldType.int)) ∈ TT := tt_8 (List.mem_of_getElem? (i := 15) rfl) rfl
theorem km_X12_476 : (Cond.methodLink RX12 476 yX12_laysYet) ∈ TT := tt_8 (List.mem_of_getElem? (i := 16) rfl) rfl
theorem ki_X12_laysYet : (Cond.instanceMethod yX12_laysYet) ∈ TT := tt_8 (List.mem_of_getElem? (i := 18) rfl) rfl
theorem kc_X12_laysYet : (Cond.code yX12_laysYet prog_14_method_96_code 7 (Option.none : Option Jvm.ClassFile.FieldType)) ∈ TT := tt_8 (List.mem_of_getElem? (i := 19) rfl) rfl
theorem km_X12_466 : (Cond.methodLink RX12 466 yX12_stepTo) ∈ TT := tt_8 (List.mem_of_getElem? (i := 20) rfl) rfl
theorem kt_X12_stepTo : (Cond.static yX12_stepTo) ∈ TT := tt_8 (List.mem_of_getElem? (i := 21) rfl) rfl
theorem kc_X12_stepTo : (Cond.code yX12_stepTo prog_14_method_95_code 3 (Option.some Jvm.ClassFile.FieldType.int)) ∈ TT := tt_8 (List.mem_of_getElem? (i := 22) rfl) rfl
theorem km_X12_469 : (Cond.methodLink RX12 469 yX12_has) ∈ TT := tt_8 (List.mem_of_getElem? (i := 23) rfl) rfl
theorem kt_X12_has : (Cond.static yX12_has) ∈ TT := tt_8 (List.mem_of_getElem? (i := 24) rfl) rfl
theorem kc_X12_has : (Cond.code yX12_has prog_14_method_3_code 2 (Option.some Jvm.ClassFile.FieldType.boolean)) ∈ TT := tt_8 (List.mem_of_getElem? (i := 25) rfl) rfl
theorem km_L_120 : (Cond.methodLink RL 120 yX12_settled) ∈ TT := tt_8 (List.mem_of_getElem? (i := 26) rfl) rfl
theorem ki_X12_settled : (Cond.instanceMethod yX12_settled) ∈ TT := tt_8 (List.mem_of_getElem? (i := 27) rfl) rfl
theorem ks_X12_settled : (Cond.selects RX12 yX12_settled yX12_settled) ∈ TT := tt_8 (List.mem_of_getElem? (i := 28) rfl) rfl
theorem kc_X12_settled : (Cond.code yX12_settled prog_14_method_98_code 8 (Option.some Jvm.ClassFile.FieldType.int)) ∈ TT := tt_8 (List.mem_of_getElem? (i := 29) rfl) rfl
theorem km_L_125 : (Cond.methodLink RL 125 yX12_lane) ∈ TT := tt_8 (List.mem_of_getElem? (i := 30) rfl) rfl
theorem ki_X12_lane : (Cond.instanceMethod yX12_lane) ∈ TT := tt_8 (List.mem_of_getElem? (i := 31) rfl) rfl
theorem ks_X12_lane : (Cond.selects RX12 yX12_lane yX12_lane) ∈ TT := tt_8 (List.mem_of_getElem? (i := 32) rfl) rfl
theorem kc_X12_lane : (Cond.code yX12_lane prog_14_method_99_code 13 (Option.some Jvm.ClassFile.FieldType.int)) ∈ TT := tt_8 (List.mem_of_getElem? (i := 33) rfl) rfl
theorem km_L_129 : (Cond.methodLink RL 129 yX12_doors) ∈ TT := tt_8 (List.mem_of_getElem? (i := 34) rfl) rfl
theorem ki_X12_doors : (Cond.instanceMethod yX12_doors) ∈ TT := tt_8 (List.mem_of_getElem? (i := 35) rfl) rfl
theorem ks_X12_doors : (Cond.selects RX12 yX12_doors yX12_doors) ∈ TT := tt_8 (List.mem_of_getElem? (i := 36) rfl) rfl
theorem kc_X12_doors : (Cond.code yX12_doors prog_14_method_101_code 7 (Option.some Jvm.ClassFile.FieldType.int)) ∈ TT := tt_8 (List.mem_of_getElem? (i := 37) rfl) rfl
theorem km_X12_479 : (Cond.methodLink RX12 479 yX12_owedIn) ∈ TT := tt_8 (List.mem_of_getElem? (i := 38) rfl) rfl
theorem ki_X12_owedIn : (Cond.instanceMethod yX12_owedIn) ∈ TT := tt_8 (List.mem_of_getElem? (i := 40) rfl) rfl
theorem kc_X12_owedIn : (Cond.code yX12_owedIn prog_14_method_100_code 5 (Option.some Jvm.ClassFile.FieldType.int)) ∈ TT := tt_8 (List.mem_of_getElem? (i := 41) rfl) rfl
theorem km_L_134 : (Cond.methodLink RL 134 yX12_neck) ∈ TT := tt_8 (List.mem_of_getElem? (i := 42) rfl) rfl
theorem ki_X12_neck : (Cond.instanceMethod yX12_neck) ∈ TT := tt_8 (List.mem_of_getElem? (i := 43) rfl) rfl
theorem ks_X12_neck : (Cond.selects RX12 yX12_neck yX12_neck) ∈ TT := tt_8 (List.mem_of_getElem? (i := 44) rfl) rfl
theorem kc_X12_neck : (Cond.code yX12_neck prog_14_method_103_code 3 (Option.some Jvm.ClassFile.FieldType.boolean)) ∈ TT := tt_8 (List.mem_of_getElem? (i := 45) rfl) rfl
theorem km_X12_482 : (Cond.methodLink RX12 482 yX12_few) ∈ TT := tt_8 (List.mem_of_getElem? (i := 46) rfl) rfl
theorem ki_X12_few : (Cond.instanceMethod yX12_few) ∈ TT := tt_8 (List.mem_of_getElem? (i := 48) rfl) rfl
theorem kc_X12_few : (Cond.code yX12_few prog_14_method_102_code 1 (Option.some Jvm.ClassFile.FieldType.int)) ∈ TT := tt_8 (List.mem_of_getElem? (i := 49) rfl) rfl
theorem km_L_138 : (Cond.methodLink RL 138 yX12_explained) ∈ TT := tt_8 (List.mem_of_getElem? (i := 50) rfl) rfl
theorem ki_X12_explained : (Cond.instanceMethod yX12_explained) ∈ TT := tt_8 (List.mem_of_getElem? (i := 51) rfl) rfl
theorem ks_X12_explained : (Cond.selects RX12 yX12_explained yX12_explained) ∈ TT := tt_8 (List.mem_of_getElem? (i := 52) rfl) rfl
theorem kc_X12_explained : (Cond.code yX12_explained prog_14_method_107_code 1 (Option.some Jvm.ClassFile.FieldType.int)) ∈ TT := tt_8 (List.mem_of_getElem? (i := 53) rfl) rfl
theorem km_X12_491 : (Cond.methodLink RX12 491 yX12_explainedWith) ∈ TT := tt_8 (List.mem_of_getElem? (i := 54) rfl) rfl
theorem ki_X12_explainedWith : (Cond.instanceMethod yX12_explainedWith) ∈ TT := tt_8 (List.mem_of_getElem? (i := 56) rfl) rfl
theorem kc_X12_explainedWith : (Cond.code yX12_explainedWith prog_14_method_106_code 5 (Option.some Jvm.ClassFile.FieldType.int)) ∈ TT := tt_8 (List.mem_of_getElem? (i := 57) rfl) rfl
theorem km_X12_488 : (Cond.methodLink RX12 488 yX12_explains) ∈ TT := tt_8 (List.mem_of_getElem? (i := 58) rfl) rfl
theorem ki_X12_explains : (Cond.instanceMethod yX12_explains) ∈ TT := tt_8 (List.mem_of_getElem? (i := 60) rfl) rfl
theorem kc_X12_explains : (Cond.code yX12_explains prog_14_method_105_code 5 (Option.some Jvm.ClassFile.FieldType.boolean)) ∈ TT := tt_8 (List.mem_of_getElem? (i := 61) rfl) rfl
theorem km_X12_485 : (Cond.methodLink RX12 485 yX12_twoOf) ∈ TT := tt_8 (List.mem_of_getElem? (i := 62) rfl) rfl
theorem kt_X12_twoOf : (Cond.static yX12_twoOf) ∈ TT := tt_8 (List.mem_of_getElem? (i := 63) rfl) rfl
theorem kc_X12_twoOf : (Cond.code yX12_twoOf prog_14_method_104_code 4 (Option.some Jvm.ClassFile.FieldType.int)) ∈ TT := tt_8 (List.mem_of_getElem? (i := 64) rfl) rfl
theorem km_L_142 : (Cond.methodLink RL 142 yX12_sure) ∈ TT := tt_8 (List.mem_of_getElem? (i := 65) rfl) rfl
theorem ki_X12_sure : (Cond.instanceMethod yX12_sure) ∈ TT := tt_8 (List.mem_of_getElem? (i := 66) rfl) rfl
theorem ks_X12_sure : (Cond.selects RX12 yX12_sure yX12_sure) ∈ TT := tt_8 (List.mem_of_getElem? (i := 67) rfl) rfl
theorem kc_X12_sure : (Cond.code yX12_sure prog_14_method_108_code 5 (Option.some Jvm.ClassFile.FieldType.int)) ∈ TT := tt_8 (List.mem_of_getElem? (i := 68) rfl) rfl
theorem km_L_146 : (Cond.methodLink RL 146 yX12_corner) ∈ TT := tt_8 (List.mem_of_getElem? (i := 69) rfl) rfl
theorem ki_X12_corner : (Cond.instanceMethod yX12_corner) ∈ TT := tt_8 (List.mem_of_getElem? (i := 70) rfl) rfl
theorem ks_X12_corner : (Cond.selects RX12 yX12_corner yX12_corner) ∈ TT := tt_8 (List.mem_of_getElem? (i := 71) rfl) rfl
theorem kc_X12_corner : (Cond.code yX12_corner prog_14_method_109_code 7 (Option.some Jvm.ClassFile.FieldType.int)) ∈ TT := tt_8 (List.mem_of_getElem? (i := 72) rfl) rfl
theorem km_L_150 : (Cond.methodLink RL 150 yX12_image) ∈ TT := tt_8 (List.mem_of_getElem? (i := 73) rfl) rfl
theorem ki_X12_image : (Cond.instanceMethod yX12_image) ∈ TT := tt_8 (List.mem_of_getElem? (i := 74) rfl) rfl
theorem ks_X12_image : (Cond.selects RX12 yX12_image yX12_image) ∈ TT := tt_8 (List.mem_of_getElem? (i := 75) rfl) rfl
theorem kc_X12_image : (Cond.code yX12_image prog_14_method_110_code 1 (Option.some Jvm.ClassFile.FieldType.int)) ∈ TT := tt_8 (List.mem_of_getElem? (i := 76) rfl) rfl
theorem km_L_154 : (Cond.methodLink RL 154 yX12_back) ∈ TT := tt_8 (List.mem_of_getElem? (i := 77) rfl) rfl
theorem ki_X12_back : (Cond.instanceMethod yX12_back) ∈ TT := tt_8 (List.mem_of_getElem? (i := 78) rfl) rfl
theorem ks_X12_back : (Cond.selects RX12 yX12_back yX12_back) ∈ TT := tt_8 (List.mem_of_getElem? (i := 79) rfl) rfl
theorem kc_X12_back : (Cond.code yX12_back prog_14_method_111_code 1 (Option.some Jvm.ClassFile.FieldType.int)) ∈ TT := tt_8 (List.mem_of_getElem? (i := 80) rfl) rfl
theorem km_L_158 : (Cond.methodLink RL 158 yX12_about) ∈ TT := tt_8 (List.mem_of_getElem? (i := 81) rfl) rfl
theorem ki_X12_about : (Cond.instanceMethod yX12_about) ∈ TT := tt_8 (List.mem_of_getElem? (i := 82) rfl) rfl
theorem ks_X12_about : (Cond.selects RX12 yX12_about yX12_about) ∈ TT := tt_8 (List.mem_of_getElem? (i := 83) rfl) rfl
theorem kc_X12_about : (Cond.code yX12_about prog_14_method_112_code 2 (Option.some Jvm.ClassFile.FieldType.int)) ∈ TT := tt_8 (List.mem_of_getElem? (i := 84) rfl) rfl
theorem kf_J0_9 : (Cond.fieldLink RJ0 9 "java/lang/String" "value" "[B") ∈ TT := tt_8 (List.mem_of_getElem? (i := 85) rfl) rfl
theorem kf_J0_15 : (Cond.fieldLink RJ0 15 "java/lang/String" "coder" "B") ∈ TT := tt_8 (List.mem_of_getElem? (i := 86) rfl) rfl
theorem ks_X1_has : (Cond.selects RX1 yX1_has yX1_has) ∈ TT := tt_0 (List.mem_of_getElem? (i := 0) rfl) rfl
theorem ks_X1_name : (Cond.selects RX1 yX1_name yX1_name) ∈ TT := tt_0 (List.mem_of_getElem? (i := 1) rfl) rfl
theorem ks_X1_run : (Cond.selects RX1 yX1_run yX1_run) ∈ TT := tt_0 (List.mem_of_getElem? (i := 2) rfl) rfl
theorem ks_X1_push : (Cond.selects RX1 yX1_push yX1_push) ∈ TT := tt_0 (List.mem_of_getElem? (i := 3) rfl) rfl
theorem ks_X1_pop : (Cond.selects RX1 yX1_pop yX1_pop) ∈ TT := tt_0 (List.mem_of_getElem? (i := 4) rfl) rfl
theorem ks_X10_step : (Cond.selects RX10 yX10_step yX10_step) ∈ TT := tt_0 (List.mem_of_getElem? (i := 5) rfl) rfl
theorem ks_X7_write : (Cond.selects RX7 yX7_write yX7_write) ∈ TT := tt_0 (List.mem_of_getElem? (i := 6) rfl) rfl
theorem ks_X8_byteAt : (Cond.selects RX8 yX8_byteAt yX8_byteAt) ∈ TT := tt_0 (List.mem_of_getElem? (i := 7) rfl) rfl
theorem ks_X8_takeWord : (Cond.selects RX8 yX8_takeWord yX8_takeWord) ∈ TT := tt_0 (List.mem_of_getElem? (i := 8) rfl) rfl
theorem ks_X8_takeNumber : (Cond.selects RX8 yX8_takeNumber yX8_takeNumber) ∈ TT := tt_0 (List.mem_of_getElem? (i := 9) rfl) rfl
theorem ks_X8_takeSign : (Cond.selects RX8 yX8_takeSign yX8_takeSign) ∈ TT := tt_0 (List.mem_of_getElem? (i := 10) rfl) rfl
theorem ks_X4_is : (Cond.selects RX4 yX4_is yX4_is) ∈ TT := tt_0 (List.mem_of_getElem? (i := 11) rfl) rfl
theorem ks_X4_readClause : (Cond.selects RX4 yX4_readClause yX4_readClause) ∈ TT := tt_0 (List.mem_of_getElem? (i := 12) rfl) rfl
theorem ks_X4_fail : (Cond.selects RX4 yX4_fail yX4_fail) ∈ TT := tt_0 (List.mem_of_getElem? (i := 13) rfl) rfl
theorem ks_X4_readSum : (Cond.selects RX4 yX4_readSum yX4_readSum) ∈ TT := tt_0 (List.mem_of_getElem? (i := 14) rfl) rfl
theorem ks_X4_readProduct : (Cond.selects RX4 yX4_readProduct yX4_readProduct) ∈ TT := tt_0 (List.mem_of_getElem? (i := 15) rfl) rfl
theorem ks_X4_readPart : (Cond.selects RX4 yX4_readPart yX4_readPart) ∈ TT := tt_0 (List.mem_of_getElem? (i := 16) rfl) rfl
theorem ks_X4_readNested : (Cond.selects RX4 yX4_readNested yX4_readNested) ∈ TT := tt_0 (List.mem_of_getElem? (i := 17) rfl) rfl
theorem ks_X4_expect : (Cond.selects RX4 yX4_expect yX4_expect) ∈ TT := tt_0 (List.mem_of_getElem? (i := 18) rfl) rfl
theorem ks_X4_readChoice : (Cond.selects RX4 yX4_readChoice yX4_readChoice) ∈ TT := tt_0 (List.mem_of_getElem? (i := 19) rfl) rfl
theorem ks_X4_readEither : (Cond.selects RX4 yX4_readEither yX4_readEither) ∈ TT := tt_0 (List.mem_of_getElem? (i := 20) rfl) rfl
theorem ks_X4_readBoth : (Cond.selects RX4 yX4_readBoth yX4_readBoth) ∈ TT := tt_0 (List.mem_of_getElem? (i := 21) rfl) rfl
theorem ks_X4_readAsk : (Cond.selects RX4 yX4_readAsk yX4_readAsk) ∈ TT := tt_0 (List.mem_of_getElem? (i := 22) rfl) rfl
theorem ks_X4_isOfLaw : (Cond.selects RX4 yX4_isOfLaw yX4_isOfLaw) ∈ TT := tt_0 (List.mem_of_getElem? (i := 23) rfl) rfl
theorem ks_X4_readDeed : (Cond.selects RX4 yX4_readDeed yX4_readDeed) ∈ TT := tt_0 (List.mem_of_getElem? (i := 24) rfl) rfl
theorem ks_X4_readNumber : (Cond.selects RX4 yX4_readNumber yX4_readNumber) ∈ TT := tt_0 (List.mem_of_getElem? (i := 25) rfl) rfl
theorem ks_X11_script : (Cond.selects RX11 yX11_script yX11_script) ∈ TT := tt_0 (List.mem_of_getElem? (i := 26) rfl) rfl
theorem ks_X11_isText : (Cond.selects RX11 yX11_isText yX11_isText) ∈ TT := tt_0 (List.mem_of_getElem? (i := 27) rfl) rfl
theorem ks_X11_play : (Cond.selects RX11 yX11_play yX11_play) ∈ TT := tt_0 (List.mem_of_getElem? (i := 28) rfl) rfl
theorem ks_X11_foresee : (Cond.selects RX11 yX11_foresee yX11_foresee) ∈ TT := tt_0 (List.mem_of_getElem? (i := 29) rfl) rfl
theorem ks_X0_look : (Cond.selects RX0 yX0_look yX0_look) ∈ TT := tt_0 (List.mem_of_getElem? (i := 30) rfl) rfl
theorem ks_X0_reaches : (Cond.selects RX0 yX0_reaches yX0_reaches) ∈ TT := tt_0 (List.mem_of_getElem? (i := 31) rfl) rfl
theorem ks_X5_paidWith : (Cond.selects RX5 yX5_paidWith yX5_paidWith) ∈ TT := tt_0 (List.mem_of_getElem? (i := 32) rfl) rfl
theorem ks_X5_nextDoor : (Cond.selects RX5 yX5_nextDoor yX5_nextDoor) ∈ TT := tt_0 (List.mem_of_getElem? (i := 33) rfl) rfl
theorem ks_X11_necksNow : (Cond.selects RX11 yX11_necksNow yX11_necksNow) ∈ TT := tt_0 (List.mem_of_getElem? (i := 34) rfl) rfl
theorem ks_X2_listTwos : (Cond.selects RX2 yX2_listTwos yX2_listTwos) ∈ TT := tt_0 (List.mem_of_getElem? (i := 35) rfl) rfl
theorem ks_X2_bend : (Cond.selects RX2 yX2_bend yX2_bend) ∈ TT := tt_0 (List.mem_of_getElem? (i := 36) rfl) rfl
theorem ks_X2_explains : (Cond.selects RX2 yX2_explains yX2_explains) ∈ TT := tt_0 (List.mem_of_getElem? (i := 37) rfl) rfl
theorem ks_X2_count : (Cond.selects RX2 yX2_count yX2_count) ∈ TT := tt_0 (List.mem_of_getElem? (i := 38) rfl) rfl
theorem ks_X12_copies : (Cond.selects RX12 yX12_copies yX12_copies) ∈ TT := tt_0 (List.mem_of_getElem? (i := 39) rfl) rfl
theorem ks_X12_tells : (Cond.selects RX12 yX12_tells yX12_tells) ∈ TT := tt_0 (List.mem_of_getElem? (i := 40) rfl) rfl
theorem ks_X12_put : (Cond.selects RX12 yX12_put yX12_put) ∈ TT := tt_0 (List.mem_of_getElem? (i := 41) rfl) rfl
theorem ks_X12_next : (Cond.selects RX12 yX12_next yX12_next) ∈ TT := tt_0 (List.mem_of_getElem? (i := 42) rfl) rfl
theorem ks_X12_asks : (Cond.selects RX12 yX12_asks yX12_asks) ∈ TT := tt_0 (List.mem_of_getElem? (i := 43) rfl) rfl
theorem ks_X12_isWord : (Cond.selects RX12 yX12_isWord yX12_isWord) ∈ TT := tt_0 (List.mem_of_getElem? (i := 44) rfl) rfl
theorem ks_X12_opensSign : (Cond.selects RX12 yX12_opensSign yX12_opensSign) ∈ TT := tt_0 (List.mem_of_getElem? (i := 45) rfl) rfl
theorem ks_X12_errs : (Cond.selects RX12 yX12_errs yX12_errs) ∈ TT := tt_0 (List.mem_of_getElem? (i := 46) rfl) rfl
theorem ks_X12_opensFrame : (Cond.selects RX12 yX12_opensFrame yX12_opensFrame) ∈ TT := tt_0 (List.mem_of_getElem? (i := 47) rfl) rfl
theorem ks_X12_begins : (Cond.selects RX12 yX12_begins yX12_begins) ∈ TT := tt_0 (List.mem_of_getElem? (i := 48) rfl) rfl
theorem ks_X12_nameNow : (Cond.selects RX12 yX12_nameNow yX12_nameNow) ∈ TT := tt_0 (List.mem_of_getElem? (i := 49) rfl) rfl
theorem ks_X12_emits : (Cond.selects RX12 yX12_emits yX12_emits) ∈ TT := tt_0 (List.mem_of_getElem? (i := 50) rfl) rfl
theorem ks_X12_oneIsOver : (Cond.selects RX12 yX12_oneIsOver yX12_oneIsOver) ∈ TT := tt_0 (List.mem_of_getElem? (i := 51) rfl) rfl
theorem ks_X12_top : (Cond.selects RX12 yX12_top yX12_top) ∈ TT := tt_0 (List.mem_of_getElem? (i := 52) rfl) rfl
theorem ks_X12_bySecond : (Cond.selects RX12 yX12_bySecond yX12_bySecond) ∈ TT := tt_0 (List.mem_of_getElem? (i := 53) rfl) rfl
theorem ks_X12_isSign : (Cond.selects RX12 yX12_isSign yX12_isSign) ∈ TT := tt_0 (List.mem_of_getElem? (i := 54) rfl) rfl
theorem ks_X12_goesOn : (Cond.selects RX12 yX12_goesOn yX12_goesOn) ∈ TT := tt_0 (List.mem_of_getElem? (i := 55) rfl) rfl
theorem ks_X12_waitsFor : (Cond.selects RX12 yX12_waitsFor yX12_waitsFor) ∈ TT := tt_0 (List.mem_of_getElem? (i := 56) rfl) rfl
theorem ks_X12_works : (Cond.selects RX12 yX12_works yX12_works) ∈ TT := tt_0 (List.mem_of_getElem? (i := 57) rfl) rfl
theorem ks_X12_turnsTo : (Cond.selects RX12 yX12_turnsTo yX12_turnsTo) ∈ TT := tt_0 (List.mem_of_getElem? (i := 58) rfl) rfl
theorem ks_X12_askIsOver : (Cond.selects RX12 yX12_askIsOver yX12_askIsOver) ∈ TT := tt_0 (List.mem_of_getElem? (i := 59) rfl) rfl
theorem ks_X12_clauseIsOver : (Cond.selects RX12 yX12_clauseIsOver yX12_clauseIsOver) ∈ TT := tt_0 (List.mem_of_getElem? (i := 60) rfl) rfl
theorem ks_X12_asksOn : (Cond.selects RX12 yX12_asksOn yX12_asksOn) ∈ TT := tt_0 (List.mem_of_getElem? (i := 61) rfl) rfl
theorem ks_X12_clause : (Cond.selects RX12 yX12_clause yX12_clause) ∈ TT := tt_0 (List.mem_of_getElem? (i := 62) rfl) rfl
theorem ks_X12_wasTold : (Cond.selects RX12 yX12_wasTold yX12_wasTold) ∈ TT := tt_0 (List.mem_of_getElem? (i := 63) rfl) rfl
theorem ks_X12_doing : (Cond.selects RX12 yX12_doing yX12_doing) ∈ TT := tt_0 (List.mem_of_getElem? (i := 64) rfl) rfl
theorem ks_X12_number : (Cond.selects RX12 yX12_number yX12_number) ∈ TT := tt_0 (List.mem_of_getElem? (i := 65) rfl) rfl
theorem ks_X12_numberBehind : (Cond.selects RX12 yX12_numberBehind yX12_numberBehind) ∈ TT := tt_0 (List.mem_of_getElem? (i := 66) rfl) rfl
theorem ks_X12_areTwo : (Cond.selects RX12 yX12_areTwo yX12_areTwo) ∈ TT := tt_0 (List.mem_of_getElem? (i := 67) rfl) rfl
theorem ks_X12_isOne : (Cond.selects RX12 yX12_isOne yX12_isOne) ∈ TT := tt_0 (List.mem_of_getElem? (i := 68) rfl) rfl
theorem ks_X12_laysNow : (Cond.selects RX12 yX12_laysNow yX12_laysNow) ∈ TT := tt_0 (List.mem_of_getElem? (i := 69) rfl) rfl
theorem ks_X12_canBow : (Cond.selects RX12 yX12_canBow yX12_canBow) ∈ TT := tt_0 (List.mem_of_getElem? (i := 70) rfl) rfl
theorem ks_X12_doMeet : (Cond.selects RX12 yX12_doMeet yX12_doMeet) ∈ TT := tt_0 (List.mem_of_getElem? (i := 71) rfl) rfl
theorem ks_X12_isOut : (Cond.selects RX12 yX12_isOut yX12_isOut) ∈ TT := tt_0 (List.mem_of_getElem? (i := 72) rfl) rfl
theorem ks_X12_sizeOf : (Cond.selects RX12 yX12_sizeOf yX12_sizeOf) ∈ TT := tt_0 (List.mem_of_getElem? (i := 73) rfl) rfl
theorem ks_X12_ordersOf : (Cond.selects RX12 yX12_ordersOf yX12_ordersOf) ∈ TT := tt_0 (List.mem_of_getElem? (i := 74) rfl) rfl
theorem ks_X12_namesOf : (Cond.selects RX12 yX12_namesOf yX12_namesOf) ∈ TT := tt_0 (List.mem_of_getElem? (i := 75) rfl) rfl
theorem ks_X12_names : (Cond.selects RX12 yX12_names yX12_names) ∈ TT := tt_0 (List.mem_of_getElem? (i := 76) rfl) rfl
theorem ks_X12_saysOf : (Cond.selects RX12 yX12_saysOf yX12_saysOf) ∈ TT := tt_0 (List.mem_of_getElem? (i := 77) rfl) rfl
theorem ks_X12_worked : (Cond.selects RX12 yX12_worked yX12_worked) ∈ TT := tt_0 (List.mem_of_getElem? (i := 78) rfl) rfl
theorem ks_X12_owedBy : (Cond.selects RX12 yX12_owedBy yX12_owedBy) ∈ TT := tt_0 (List.mem_of_getElem? (i := 79) rfl) rfl
theorem ks_X12_keepsStep : (Cond.selects RX12 yX12_keepsStep yX12_keepsStep) ∈ TT := tt_0 (List.mem_of_getElem? (i := 80) rfl) rfl
theorem ks_X12_bows : (Cond.selects RX12 yX12_bows yX12_bows) ∈ TT := tt_0 (List.mem_of_getElem? (i := 81) rfl) rfl
theorem ks_X12_moreOf : (Cond.selects RX12 yX12_moreOf yX12_moreOf) ∈ TT := tt_0 (List.mem_of_getElem? (i := 82) rfl) rfl
theorem ks_X12_keepsNow : (Cond.selects RX12 yX12_keepsNow yX12_keepsNow) ∈ TT := tt_0 (List.mem_of_getElem? (i := 83) rfl) rfl
theorem ks_X12_walks : (Cond.selects RX12 yX12_walks yX12_walks) ∈ TT := tt_0 (List.mem_of_getElem? (i := 84) rfl) rfl
theorem ks_X12_feasts : (Cond.selects RX12 yX12_feasts yX12_feasts) ∈ TT := tt_0 (List.mem_of_getElem? (i := 85) rfl) rfl
theorem ks_X12_hourPasses : (Cond.selects RX12 yX12_hourPasses yX12_hourPasses) ∈ TT := tt_0 (List.mem_of_getElem? (i := 86) rfl) rfl
theorem ks_X12_dayBegins : (Cond.selects RX12 yX12_dayBegins yX12_dayBegins) ∈ TT := tt_0 (List.mem_of_getElem? (i := 87) rfl) rfl
theorem ks_X12_lateOf : (Cond.selects RX12 yX12_lateOf yX12_lateOf) ∈ TT := tt_0 (List.mem_of_getElem? (i := 88) rfl) rfl
theorem ks_X12_allOwedBy : (Cond.selects RX12 yX12_allOwedBy yX12_allOwedBy) ∈ TT := tt_0 (List.mem_of_getElem? (i := 89) rfl) rfl
theorem ks_X12_ruinOf : (Cond.selects RX12 yX12_ruinOf yX12_ruinOf) ∈ TT := tt_0 (List.mem_of_getElem? (i := 90) rfl) rfl
theorem ks_X12_writes : (Cond.selects RX12 yX12_writes yX12_writes) ∈ TT := tt_0 (List.mem_of_getElem? (i := 91) rfl) rfl
theorem ks_X12_happens : (Cond.selects RX12 yX12_happens yX12_happens) ∈ TT := tt_0 (List.mem_of_getElem? (i := 92) rfl) rfl
theorem ks_X12_draw : (Cond.selects RX12 yX12_draw yX12_draw) ∈ TT := tt_0 (List.mem_of_getElem? (i := 93) rfl) rfl
theorem ks_X12_canPass : (Cond.selects RX12 yX12_canPass yX12_canPass) ∈ TT := tt_0 (List.mem_of_getElem? (i := 94) rfl) rfl
theorem ks_X12_hours : (Cond.selects RX12 yX12_hours yX12_hours) ∈ TT := tt_0 (List.mem_of_getElem? (i := 95) rfl) rfl
theorem ks_X12_allOwedTo : (Cond.selects RX12 yX12_allOwedTo yX12_allOwedTo) ∈ TT := tt_0 (List.mem_of_getElem? (i := 96) rfl) rfl
theorem ks_X12_passesThrough : (Cond.selects RX12 yX12_passesThrough yX12_passesThrough) ∈ TT := tt_0 (List.mem_of_getElem? (i := 97) rfl) rfl
theorem ks_X12_placesOf : (Cond.selects RX12 yX12_placesOf yX12_placesOf) ∈ TT := tt_0 (List.mem_of_getElem? (i := 98) rfl) rfl
theorem ks_X12_laysYet : (Cond.selects RX12 yX12_laysYet yX12_laysYet) ∈ TT := tt_0 (List.mem_of_getElem? (i := 99) rfl) rfl
theorem ks_X12_owedIn : (Cond.selects RX12 yX12_owedIn yX12_owedIn) ∈ TT := tt_0 (List.mem_of_getElem? (i := 100) rfl) rfl
theorem ks_X12_few : (Cond.selects RX12 yX12_few yX12_few) ∈ TT := tt_0 (List.mem_of_getElem? (i := 101) rfl) rfl
theorem ks_X12_explainedWith : (Cond.selects RX12 yX12_explainedWith yX12_explainedWith) ∈ TT := tt_0 (List.mem_of_getElem? (i := 102) rfl) rfl
theorem ks_X12_explains : (Cond.selects RX12 yX12_explains yX12_explains) ∈ TT := tt_0 (List.mem_of_getElem? (i := 103) rfl) rfl
theorem inX0 : ∀ w ∈ u_ws RX0 TX0 6, w ∈ TT := List.forall_mem_cons.mpr ⟨kv_X0_steps, List.forall_mem_cons.mpr ⟨kv_X0_way, List.forall_mem_cons.mpr ⟨kv_X0_turn, List.forall_mem_cons.mpr ⟨kv_X0_from, List.forall_mem_cons.mpr ⟨kv_X0_wanted, List.forall_mem_cons.mpr ⟨kv_X0_shunned, fun _ h => absurd h List.not_mem_nil⟩⟩⟩⟩⟩⟩
theorem inX1 : ∀ w ∈ u_ws RX1 TX1 6, w ∈ TT := List.forall_mem_cons.mpr ⟨kv_X1_people, List.forall_mem_cons.mpr ⟨kv_X1_state, List.forall_mem_cons.mpr ⟨kv_X1_names, List.forall_mem_cons.mpr ⟨kv_X1_stack, List.forall_mem_cons.mpr ⟨kv_X1_top, List.forall_mem_cons.mpr ⟨kv_X1_script, fun _ h => absurd h List.not_mem_nil⟩⟩⟩⟩⟩⟩
theorem inX2 : ∀ w ∈ u_ws RX2 TX2 6, w ∈ TT := List.forall_mem_cons.mpr ⟨kv_X2_sets, List.forall_mem_cons.mpr ⟨kv_X2_twos, List.forall_mem_cons.mpr ⟨kv_X2_lower, List.forall_mem_cons.mpr ⟨kv_X2_higher, List.forall_mem_cons.mpr ⟨kv_X2_met, List.forall_mem_cons.mpr ⟨kv_X2_bent, fun _ h => absurd h List.not_mem_nil⟩⟩⟩⟩⟩⟩
theorem inX3 : ∀ w ∈ u_ws RX3 TX3 3, w ∈ TT := List.forall_mem_cons.mpr ⟨kv_X3_age, List.forall_mem_cons.mpr ⟨kv_X3_back, List.forall_mem_cons.mpr ⟨kv_X3_place, fun _ h => absurd h List.not_mem_nil⟩⟩⟩
theorem inX4 : ∀ w ∈ u_ws RX4 TX4 5, w ∈ TT := List.forall_mem_cons.mpr ⟨kv_X4_draft, List.forall_mem_cons.mpr ⟨kv_X4_fault, List.forall_mem_cons.mpr ⟨kv_X4_faultAt, List.forall_mem_cons.mpr ⟨kv_X4_tape, List.forall_mem_cons.mpr ⟨kv_X4_law, fun _ h => absurd h List.not_mem_nil⟩⟩⟩⟩⟩
theorem inX5 : ∀ w ∈ u_ws RX5 TX5 2, w ∈ TT := List.forall_mem_cons.mpr ⟨kv_X5_have, List.forall_mem_cons.mpr ⟨kv_X5_best, fun _ h => absurd h List.not_mem_nil⟩⟩
theorem inX6 : ∀ w ∈ u_ws RX6 TX6 7, w ∈ TT := List.forall_mem_cons.mpr ⟨kv_X6_code, List.forall_mem_cons.mpr ⟨kv_X6_starts, List.forall_mem_cons.mpr ⟨kv_X6_stops, List.forall_mem_cons.mpr ⟨kv_X6_deeds, List.forall_mem_cons.mpr ⟨kv_X6_numbers, List.forall_mem_cons.mpr ⟨kv_X6_length, List.forall_mem_cons.mpr ⟨kv_X6_clauses, fun _ h => absurd h List.not_mem_nil⟩⟩⟩⟩⟩⟩⟩
theorem inX7 : ∀ w ∈ u_ws RX7 TX7 10, w ∈ TT := List.forall_mem_cons.mpr ⟨kv_X7_count, List.forall_mem_cons.mpr ⟨kv_X7_day, List.forall_mem_cons.mpr ⟨kv_X7_hour, List.forall_mem_cons.mpr ⟨kv_X7_x, List.forall_mem_cons.mpr ⟨kv_X7_written, List.forall_mem_cons.mpr ⟨kv_X7_left, List.forall_mem_cons.mpr ⟨kv_X7_place, List.forall_mem_cons.mpr ⟨kv_X7_indoors, List.forall_mem_cons.mpr ⟨kv_X7_owes, List.forall_mem_cons.mpr ⟨kv_X7_book, fun _ h => absurd h List.not_mem_nil⟩⟩⟩⟩⟩⟩⟩⟩⟩⟩
theorem inX8 : ∀ w ∈ u_ws RX8 TX8 6, w ∈ TT := List.forall_mem_cons.mpr ⟨kv_X8_bytes, List.forall_mem_cons.mpr ⟨kv_X8_length, List.forall_mem_cons.mpr ⟨kv_X8_token, List.forall_mem_cons.mpr ⟨kv_X8_value, List.forall_mem_cons.mpr ⟨kv_X8_start, List.forall_mem_cons.mpr ⟨kv_X8_at, fun _ h => absurd h List.not_mem_nil⟩⟩⟩⟩⟩⟩
theorem inX9 : ∀ w ∈ u_ws RX9 TX9 3, w ∈ TT := List.forall_mem_cons.mpr ⟨kv_X9_state, List.forall_mem_cons.mpr ⟨kv_X9_laws, List.forall_mem_cons.mpr ⟨kv_X9_people, fun _ h => absurd h List.not_mem_nil⟩⟩⟩
theorem inX10 : ∀ w ∈ u_ws RX10 TX10 7, w ∈ TT := List.forall_mem_cons.mpr ⟨kv_X10_state, List.forall_mem_cons.mpr ⟨kv_X10_necks, List.forall_mem_cons.mpr ⟨kv_X10_texts, List.forall_mem_cons.mpr ⟨kv_X10_ruling, List.forall_mem_cons.mpr ⟨kv_X10_steps, List.forall_mem_cons.mpr ⟨kv_X10_before, List.forall_mem_cons.mpr ⟨kv_X10_eldest, fun _ h => absurd h List.not_mem_nil⟩⟩⟩⟩⟩⟩⟩
theorem inX11 : ∀ w ∈ u_ws RX11 TX11 12, w ∈ TT := List.forall_mem_cons.mpr ⟨kv_X11_people, List.forall_mem_cons.mpr ⟨kv_X11_now, List.forall_mem_cons.mpr ⟨kv_X11_kept, List.forall_mem_cons.mpr ⟨kv_X11_lawless, List.forall_mem_cons.mpr ⟨kv_X11_texts, List.forall_mem_cons.mpr ⟨kv_X11_town, List.forall_mem_cons.mpr ⟨kv_X11_foreseen, List.forall_mem_cons.mpr ⟨kv_X11_tape, List.forall_mem_cons.mpr ⟨kv_X11_reader, List.forall_mem_cons.mpr ⟨kv_X11_errand, List.forall_mem_cons.mpr ⟨kv_X11_reckoning, List.forall_mem_cons.mpr ⟨kv_X11_meetings, fun _ h => absurd h List.not_mem_nil⟩⟩⟩⟩⟩⟩⟩⟩⟩⟩⟩⟩
theorem inX12 : ∀ w ∈ u_ws RX12 TX12 46, w ∈ TT := List.forall_mem_cons.mpr ⟨kv_X12_a, List.forall_mem_cons.mpr ⟨kv_X12_image, List.forall_mem_cons.mpr ⟨kv_X12_tape, List.forall_mem_cons.mpr ⟨kv_X12_taped, List.forall_mem_cons.mpr ⟨kv_X12_fault, List.forall_mem_cons.mpr ⟨kv_X12_faultAt, List.forall_mem_cons.mpr ⟨kv_X12_clauses, List.forall_mem_cons.mpr ⟨kv_X12_clauseWord, List.forall_mem_cons.mpr ⟨kv_X12_clauseAt, List.forall_mem_cons.mpr ⟨kv_X12_clauseOne, List.forall_mem_cons.mpr ⟨kv_X12_clauseTwo, List.forall_mem_cons.mpr ⟨kv_X12_clauseThree, List.forall_mem_cons.mpr ⟨kv_X12_order, List.forall_mem_cons.mpr ⟨kv_X12_value, List.forall_mem_cons.mpr ⟨kv_X12_textLength, List.forall_mem_cons.mpr ⟨kv_X12_at, List.forall_mem_cons.mpr ⟨kv_X12_token, List.forall_mem_cons.mpr ⟨kv_X12_sort, List.forall_mem_cons.mpr ⟨kv_X12_tokenIs, List.forall_mem_cons.mpr ⟨kv_X12_wrong, List.forall_mem_cons.mpr ⟨kv_X12_wrongAt, List.forall_mem_cons.mpr ⟨kv_X12_open, List.forall_mem_cons.mpr ⟨kv_X12_frames, List.forall_mem_cons.mpr ⟨kv_X12_frame, List.forall_mem_cons.mpr ⟨kv_X12_compare, List.forall_mem_cons.mpr ⟨kv_X12_waits, List.forall_mem_cons.mpr ⟨kv_X12_wait, List.forall_mem_cons.mpr ⟨kv_X12_waitFrame, List.forall_mem_cons.mpr ⟨kv_X12_state, List.forall_mem_cons.mpr ⟨kv_X12_openAt, List.forall_mem_cons.mpr ⟨kv_X12_newClauses, List.forall_mem_cons.mpr ⟨kv_X12_newKind, List.forall_mem_cons.mpr ⟨kv_X12_newWord, List.forall_mem_cons.mpr ⟨kv_X12_newAt, List.forall_mem_cons.mpr ⟨kv_X12_newOne, List.forall_mem_cons.mpr ⟨kv_X12_newTwo, List.forall_mem_cons.mpr ⟨kv_X12_newThree, List.forall_mem_cons.mpr ⟨kv_X12_newOrders, List.forall_mem_cons.mpr ⟨kv_X12_newOrder, List.forall_mem_cons.mpr ⟨kv_X12_newValue, List.forall_mem_cons.mpr ⟨kv_X12_w, List.forall_mem_cons.mpr ⟨kv_X12_name, List.forall_mem_cons.mpr ⟨kv_X12_pile, List.forall_mem_cons.mpr ⟨kv_X12_firstRuined, List.forall_mem_cons.mpr ⟨kv_X12_yet, List.forall_mem_cons.mpr ⟨kv_X12_best, fun _ h => absurd h List.not_mem_nil⟩⟩⟩⟩⟩⟩⟩⟩⟩⟩⟩⟩⟩⟩⟩⟩⟩⟩⟩⟩⟩⟩⟩⟩⟩⟩⟩⟩⟩⟩⟩⟩⟩⟩⟩⟩⟩⟩⟩⟩⟩⟩⟩⟩⟩⟩
