/-! Checks of methods. -/
theorem mD_231_0 : ck_t prog_14_method_19_code mT_231_0 = true := by decide +kernel
theorem mD_231 : ck_t prog_14_method_19_code mT_231 = true := mD_231_0
theorem mO_231 : mC_231.all (ck_c lw_tbl (mi_ev []) mi_Gs mi_mq mi_fr mi_lo 231 "SafeCodeModel") = true := by decide +kernel
theorem mQ_231 : ck_q lw_tbl mi_cl mG_231 0 1 13 [265, 2499, 129] = true := by decide +kernel
set_option maxRecDepth 100000 in
theorem mW_231 : Cond.code ⟨"SafeCodeModel", "takes", "(Z)Z"⟩ prog_14_method_19_code 2 (some .boolean) ∈ lw_tbl.filter goodWord := mI_tables_1_10 (List.mem_of_getElem? (i := 93) rfl) rfl
theorem mD_232_0 : ck_t prog_14_method_51_code mT_232_0 = true := by decide +kernel
theorem mD_232 : ck_t prog_14_method_51_code mT_232 = true := mD_232_0
theorem mO_232 : mC_232.all (ck_c lw_tbl (mi_ev []) mi_Gs mi_mq mi_fr mi_lo 232 "SafeCodeModel") = true := by decide +kernel
theorem mQ_232 : ck_q lw_tbl mi_cl mG_232 0 2 13 [265, 2678, 168] = true := by decide +kernel
set_option maxRecDepth 100000 in
theorem mW_232 : Cond.code ⟨"SafeCodeModel", "threshold", "(LSafeCodeModel$Program;J)V"⟩ prog_14_method_51_code 6 (none) ∈ lw_tbl.filter goodWord := mI_tables_1_11 (List.mem_of_getElem? (i := 32) rfl) rfl
theorem mD_233_0 : ck_t prog_14_method_50_code mT_233_0 = true := by decide +kernel
theorem mD_233 : ck_t prog_14_method_50_code mT_233 = true := mD_233_0
theorem mO_233 : mC_233.all (ck_c lw_tbl (mi_ev []) mi_Gs mi_mq mi_fr mi_lo 233 "SafeCodeModel") = true := by decide +kernel
theorem mQ_233 : ck_q lw_tbl mi_cl mG_233 0 2 13 [265, 2674, 167] = true := by decide +kernel
set_option maxRecDepth 100000 in
theorem mW_233 : Cond.code ⟨"SafeCodeModel", "thresholds", "(LSafeCodeModel$Program;J)V"⟩ prog_14_method_50_code 6 (none) ∈ lw_tbl.filter goodWord := mI_tables_1_11 (List.mem_of_getElem? (i := 28) rfl) rfl
theorem mD_234_0 : ck_t prog_14_method_163_code mT_234_0 = true := by decide +kernel
theorem mD_234 : ck_t prog_14_method_163_code mT_234 = true := mD_234_0
theorem mO_234 : mC_234.all (ck_c lw_tbl (mi_ev []) mi_Gs mi_mq mi_fr mi_lo 234 "SafeCodeModel") = true := by decide +kernel
theorem mQ_234 : ck_q lw_tbl mi_cl mG_234 0 0 13 [265, 3129, 3130] = true := by decide +kernel
set_option maxRecDepth 100000 in
theorem mW_234 : Cond.code ⟨"SafeCodeModel", "thrown", "()I"⟩ prog_14_method_163_code 1 (some .int) ∈ lw_tbl.filter goodWord := mI_tables_1_13 (List.mem_of_getElem? (i := 4) rfl) rfl
theorem mD_235_0 : ck_t prog_14_method_152_code mT_235_0 = true := by decide +kernel
theorem mD_235_1 : ck_t prog_14_method_152_code mT_235_1 = true := by decide +kernel
theorem mD_235_2 : ck_t prog_14_method_152_code mT_235_2 = true := by decide +kernel
theorem mD_235 : ck_t prog_14_method_152_code mT_235 = true := ck_t_app mD_235_0 (ck_t_app mD_235_1 mD_235_2)
theorem mO_235 : mC_235.all (ck_c lw_tbl (mi_ev []) mi_Gs mi_mq mi_fr mi_lo 235 "SafeCodeModel") = true := by decide +kernel
theorem mQ_235 : ck_q lw_tbl mi_cl mG_235 0 2 13 [265, 3094, 240] = true := by decide +kernel
set_option maxRecDepth 100000 in
theorem mW_235 : Cond.code ⟨"SafeCodeModel", "toss", "(JI)V"⟩ prog_14_method_152_code 7 (none) ∈ lw_tbl.filter goodWord := mI_tables_1_12 (List.mem_of_getElem? (i := 208) rfl) rfl
theorem mD_236_0 : ck_t prog_14_method_29_code mT_236_0 = true := by decide +kernel
theorem mD_236 : ck_t prog_14_method_29_code mT_236 = true := mD_236_0
theorem mO_236 : mC_236.all (ck_c lw_tbl (mi_ev []) mi_Gs mi_mq mi_fr mi_lo 236 "SafeCodeModel") = true := by decide +kernel
theorem mQ_236 : ck_q lw_tbl mi_cl mG_236 0 2 13 [265, 2621, 154] = true := by decide +kernel
set_option maxRecDepth 100000 in
theorem mW_236 : Cond.code ⟨"SafeCodeModel", "typeOf", "(LSafeCodeModel$Program;I)I"⟩ prog_14_method_29_code 6 (some .int) ∈ lw_tbl.filter goodWord := mI_tables_1_10 (List.mem_of_getElem? (i := 215) rfl) rfl
