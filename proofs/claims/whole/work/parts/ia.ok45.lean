/-! Checks of methods. -/
theorem mD_247_0 : ck_t prog_3_method_3_code mT_247_0 = true := by decide +kernel
theorem mD_247 : ck_t prog_3_method_3_code mT_247 = true := mD_247_0
theorem mO_247 : mC_247.all (ck_c lw_tbl (mi_ev []) mi_Gs mi_mq mi_fr mi_lo 247 "SafeCode$Classes") = true := by decide +kernel
theorem mQ_247 : ck_q lw_tbl mi_cl mG_247 0 1 1 [256, 1107, 1108] = true := by decide +kernel
set_option maxRecDepth 100000 in
theorem mW_247 : Cond.code ⟨"SafeCode$Classes", "add", "(I)I"⟩ prog_3_method_3_code 2 (some .int) ∈ lw_tbl.filter goodWord := mI_tables_1_4 (List.mem_of_getElem? (i := 142) rfl) rfl
theorem mD_248_0 : ck_t prog_3_method_7_code mT_248_0 = true := by decide +kernel
theorem mD_248 : ck_t prog_3_method_7_code mT_248 = true := mD_248_0
theorem mO_248 : mC_248.all (ck_c lw_tbl (mi_ev []) mi_Gs mi_mq mi_fr mi_lo 248 "SafeCode$Classes") = true := by decide +kernel
theorem mQ_248 : ck_q lw_tbl mi_cl mG_248 0 3 1 [256, 1166, 1167] = true := by decide +kernel
set_option maxRecDepth 100000 in
theorem mW_248 : Cond.code ⟨"SafeCode$Classes", "addField", "(III)V"⟩ prog_3_method_7_code 4 (none) ∈ lw_tbl.filter goodWord := mI_tables_1_4 (List.mem_of_getElem? (i := 201) rfl) rfl
theorem mD_249_0 : ck_t prog_3_method_12_code mT_249_0 = true := by decide +kernel
theorem mD_249 : ck_t prog_3_method_12_code mT_249 = true := mD_249_0
theorem mO_249 : mC_249.all (ck_c lw_tbl (mi_ev []) mi_Gs mi_mq mi_fr mi_lo 249 "SafeCode$Classes") = true := by decide +kernel
theorem mQ_249 : ck_q lw_tbl mi_cl mG_249 3 1 0 [256, 1345] = true := by decide +kernel
set_option maxRecDepth 100000 in
theorem mW_249 : Cond.code ⟨"SafeCode$Classes", "classOf", "(I)I"⟩ prog_3_method_12_code 1 (some .int) ∈ lw_tbl.filter goodWord := mI_tables_1_5 (List.mem_of_getElem? (i := 139) rfl) rfl
theorem mD_250_0 : ck_t prog_3_method_2_code mT_250_0 = true := by decide +kernel
theorem mD_250 : ck_t prog_3_method_2_code mT_250 = true := mD_250_0
theorem mO_250 : mC_250.all (ck_c lw_tbl (mi_ev []) mi_Gs mi_mq mi_fr mi_lo 250 "SafeCode$Classes") = true := by decide +kernel
theorem mQ_250 : ck_q lw_tbl mi_cl mG_250 0 0 1 [256, 1102, 1103] = true := by decide +kernel
set_option maxRecDepth 100000 in
theorem mW_250 : Cond.code ⟨"SafeCode$Classes", "clear", "()V"⟩ prog_3_method_2_code 2 (none) ∈ lw_tbl.filter goodWord := mI_tables_1_4 (List.mem_of_getElem? (i := 137) rfl) rfl
theorem mD_251_0 : ck_t prog_3_method_11_code mT_251_0 = true := by decide +kernel
theorem mD_251 : ck_t prog_3_method_11_code mT_251 = true := mD_251_0
theorem mO_251 : mC_251.all (ck_c lw_tbl (mi_ev []) mi_Gs mi_mq mi_fr mi_lo 251 "SafeCode$Classes") = true := by decide +kernel
theorem mQ_251 : ck_q lw_tbl mi_cl mG_251 3 1 0 [256, 1367] = true := by decide +kernel
set_option maxRecDepth 100000 in
theorem mW_251 : Cond.code ⟨"SafeCode$Classes", "element", "(I)I"⟩ prog_3_method_11_code 1 (some .int) ∈ lw_tbl.filter goodWord := mI_tables_1_5 (List.mem_of_getElem? (i := 161) rfl) rfl
theorem mD_252_0 : ck_t prog_3_method_6_code mT_252_0 = true := by decide +kernel
theorem mD_252 : ck_t prog_3_method_6_code mT_252 = true := mD_252_0
theorem mO_252 : mC_252.all (ck_c lw_tbl (mi_ev []) mi_Gs mi_mq mi_fr mi_lo 252 "SafeCode$Classes") = true := by decide +kernel
theorem mQ_252 : ck_q lw_tbl mi_cl mG_252 0 2 1 [256, 1158, 1159] = true := by decide +kernel
set_option maxRecDepth 100000 in
theorem mW_252 : Cond.code ⟨"SafeCode$Classes", "findField", "(II)I"⟩ prog_3_method_6_code 4 (some .int) ∈ lw_tbl.filter goodWord := mI_tables_1_4 (List.mem_of_getElem? (i := 193) rfl) rfl
