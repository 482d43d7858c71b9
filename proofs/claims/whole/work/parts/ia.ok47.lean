/-! Checks of methods. -/
theorem mD_259_0 : ck_t prog_3_method_8_code mT_259_0 = true := by decide +kernel
theorem mD_259 : ck_t prog_3_method_8_code mT_259 = true := mD_259_0
theorem mO_259 : mC_259.all (ck_c lw_tbl (mi_ev []) mi_Gs mi_mq mi_fr mi_lo 259 "SafeCode$Classes") = true := by decide +kernel
theorem mQ_259 : ck_q lw_tbl mi_cl mG_259 0 0 1 [256, 1395, 1396] = true := by decide +kernel
set_option maxRecDepth 100000 in
theorem mW_259 : Cond.code ⟨"SafeCode$Classes", "placeFields", "()V"⟩ prog_3_method_8_code 3 (none) ∈ lw_tbl.filter goodWord := mI_tables_1_5 (List.mem_of_getElem? (i := 190) rfl) rfl
theorem mD_260_0 : ck_t prog_3_method_4_code mT_260_0 = true := by decide +kernel
theorem mD_260 : ck_t prog_3_method_4_code mT_260 = true := mD_260_0
theorem mO_260 : mC_260.all (ck_c lw_tbl (mi_ev []) mi_Gs mi_mq mi_fr mi_lo 260 "SafeCode$Classes") = true := by decide +kernel
theorem mQ_260 : ck_q lw_tbl mi_cl mG_260 0 1 1 [256, 1262, 1263] = true := by decide +kernel
set_option maxRecDepth 100000 in
theorem mW_260 : Cond.code ⟨"SafeCode$Classes", "upOf", "(I)I"⟩ prog_3_method_4_code 2 (some .int) ∈ lw_tbl.filter goodWord := mI_tables_1_5 (List.mem_of_getElem? (i := 57) rfl) rfl
theorem mD_261_0 : ck_t prog_4_method_35_code mT_261_0 = true := by decide +kernel
theorem mD_261_1 : ck_t prog_4_method_35_code mT_261_1 = true := by decide +kernel
theorem mD_261_2 : ck_t prog_4_method_35_code mT_261_2 = true := by decide +kernel
theorem mD_261 : ck_t prog_4_method_35_code mT_261 = true := ck_t_app mD_261_0 (ck_t_app mD_261_1 mD_261_2)
theorem mO_261 : mC_261.all (ck_c lw_tbl (mi_ev []) mi_Gs mi_mq mi_fr mi_lo 261 "SafeCode$Machine") = true := by decide +kernel
theorem mQ_261 : ck_q lw_tbl mi_cl mG_261 0 2 2 [264, 1900, 98] = true := by decide +kernel
set_option maxRecDepth 100000 in
theorem mW_261 : Cond.code ⟨"SafeCode$Machine", "areSetsAsProved", "(JJ)Z"⟩ prog_4_method_35_code 15 (some .boolean) ∈ lw_tbl.filter goodWord := mI_tables_1_7 (List.mem_of_getElem? (i := 214) rfl) rfl
theorem mD_262_0 : ck_t prog_4_method_4_code mT_262_0 = true := by decide +kernel
theorem mD_262 : ck_t prog_4_method_4_code mT_262 = true := mD_262_0
theorem mO_262 : mC_262.all (ck_c lw_tbl (mi_ev []) mi_Gs mi_mq mi_fr mi_lo 262 "SafeCode$Machine") = true := by decide +kernel
theorem mQ_262 : ck_q lw_tbl mi_cl mG_262 0 1 2 [264, 1877, 94] = true := by decide +kernel
set_option maxRecDepth 100000 in
theorem mW_262 : Cond.code ⟨"SafeCode$Machine", "beginBody", "(I)V"⟩ prog_4_method_4_code 3 (none) ∈ lw_tbl.filter goodWord := mI_tables_1_7 (List.mem_of_getElem? (i := 191) rfl) rfl
theorem mD_263_0 : ck_t prog_4_method_15_code mT_263_0 = true := by decide +kernel
theorem mD_263 : ck_t prog_4_method_15_code mT_263 = true := mD_263_0
theorem mO_263 : mC_263.all (ck_c lw_tbl (mi_ev []) mi_Gs mi_mq mi_fr mi_lo 263 "SafeCode$Machine") = true := by decide +kernel
theorem mQ_263 : ck_q lw_tbl mi_cl mG_263 0 2 2 [264, 1951, 108] = true := by decide +kernel
set_option maxRecDepth 100000 in
theorem mW_263 : Cond.code ⟨"SafeCode$Machine", "calculate", "(II)I"⟩ prog_4_method_15_code 4 (some .int) ∈ lw_tbl.filter goodWord := mI_tables_1_8 (List.mem_of_getElem? (i := 25) rfl) rfl
theorem mD_264_0 : ck_t prog_4_method_16_code mT_264_0 = true := by decide +kernel
theorem mD_264 : ck_t prog_4_method_16_code mT_264 = true := mD_264_0
theorem mO_264 : mC_264.all (ck_c lw_tbl (mi_ev []) mi_Gs mi_mq mi_fr mi_lo 264 "SafeCode$Machine") = true := by decide +kernel
theorem mQ_264 : ck_q lw_tbl mi_cl mG_264 3 3 0 [264, 1970] = true := by decide +kernel
set_option maxRecDepth 100000 in
theorem mW_264 : Cond.code ⟨"SafeCode$Machine", "calculated", "(III)I"⟩ prog_4_method_16_code 3 (some .int) ∈ lw_tbl.filter goodWord := mI_tables_1_8 (List.mem_of_getElem? (i := 44) rfl) rfl
