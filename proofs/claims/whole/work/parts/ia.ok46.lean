/-! Checks of methods. -/
theorem mD_253_0 : ck_t prog_3_method_1_code mT_253_0 = true := by decide +kernel
theorem mD_253 : ck_t prog_3_method_1_code mT_253 = true := mD_253_0
theorem mO_253 : mC_253.all (ck_c lw_tbl (mi_ev []) mi_Gs mi_mq mi_fr mi_lo 253 "SafeCode$Classes") = true := by decide +kernel
theorem mQ_253 : ck_q lw_tbl mi_cl mG_253 1 0 0 [256, 446] = true := by decide +kernel
set_option maxRecDepth 100000 in
theorem mW_253 : Cond.code ⟨"SafeCode$Classes", "<init>", "()V"⟩ prog_3_method_1_code 1 (none) ∈ lw_tbl.filter goodWord := mI_tables_1_1 (List.mem_of_getElem? (i := 200) rfl) rfl
theorem mD_254_0 : ck_t prog_3_method_5_code mT_254_0 = true := by decide +kernel
theorem mD_254 : ck_t prog_3_method_5_code mT_254 = true := mD_254_0
theorem mO_254 : mC_254.all (ck_c lw_tbl (mi_ev []) mi_Gs mi_mq mi_fr mi_lo 254 "SafeCode$Classes") = true := by decide +kernel
theorem mQ_254 : ck_q lw_tbl mi_cl mG_254 0 2 1 [256, 1162, 1163] = true := by decide +kernel
set_option maxRecDepth 100000 in
theorem mW_254 : Cond.code ⟨"SafeCode$Classes", "isAbove", "(II)Z"⟩ prog_3_method_5_code 3 (some .boolean) ∈ lw_tbl.filter goodWord := mI_tables_1_4 (List.mem_of_getElem? (i := 197) rfl) rfl
theorem mD_255_0 : ck_t prog_3_method_10_code mT_255_0 = true := by decide +kernel
theorem mD_255 : ck_t prog_3_method_10_code mT_255 = true := mD_255_0
theorem mO_255 : mC_255.all (ck_c lw_tbl (mi_ev []) mi_Gs mi_mq mi_fr mi_lo 255 "SafeCode$Classes") = true := by decide +kernel
theorem mQ_255 : ck_q lw_tbl mi_cl mG_255 3 1 0 [256, 1364] = true := by decide +kernel
set_option maxRecDepth 100000 in
theorem mW_255 : Cond.code ⟨"SafeCode$Classes", "isArray", "(I)Z"⟩ prog_3_method_10_code 1 (some .boolean) ∈ lw_tbl.filter goodWord := mI_tables_1_5 (List.mem_of_getElem? (i := 158) rfl) rfl
theorem mD_256_0 : ck_t prog_3_method_13_code mT_256_0 = true := by decide +kernel
theorem mD_256 : ck_t prog_3_method_13_code mT_256 = true := mD_256_0
theorem mO_256 : mC_256.all (ck_c lw_tbl (mi_ev []) mi_Gs mi_mq mi_fr mi_lo 256 "SafeCode$Classes") = true := by decide +kernel
theorem mQ_256 : ck_q lw_tbl mi_cl mG_256 0 2 1 [256, 1378, 1379] = true := by decide +kernel
set_option maxRecDepth 100000 in
theorem mW_256 : Cond.code ⟨"SafeCode$Classes", "isBelow", "(II)Z"⟩ prog_3_method_13_code 3 (some .boolean) ∈ lw_tbl.filter goodWord := mI_tables_1_5 (List.mem_of_getElem? (i := 173) rfl) rfl
theorem mD_257_0 : ck_t prog_3_method_9_code mT_257_0 = true := by decide +kernel
theorem mD_257 : ck_t prog_3_method_9_code mT_257 = true := mD_257_0
theorem mO_257 : mC_257.all (ck_c lw_tbl (mi_ev []) mi_Gs mi_mq mi_fr mi_lo 257 "SafeCode$Classes") = true := by decide +kernel
theorem mQ_257 : ck_q lw_tbl mi_cl mG_257 3 1 0 [256, 1388] = true := by decide +kernel
set_option maxRecDepth 100000 in
theorem mW_257 : Cond.code ⟨"SafeCode$Classes", "isRef", "(I)Z"⟩ prog_3_method_9_code 1 (some .boolean) ∈ lw_tbl.filter goodWord := mI_tables_1_5 (List.mem_of_getElem? (i := 182) rfl) rfl
theorem mD_258_0 : ck_t prog_3_method_14_code mT_258_0 = true := by decide +kernel
theorem mD_258 : ck_t prog_3_method_14_code mT_258 = true := mD_258_0
theorem mO_258 : mC_258.all (ck_c lw_tbl (mi_ev []) mi_Gs mi_mq mi_fr mi_lo 258 "SafeCode$Classes") = true := by decide +kernel
theorem mQ_258 : ck_q lw_tbl mi_cl mG_258 0 2 1 [256, 1341, 1342] = true := by decide +kernel
set_option maxRecDepth 100000 in
theorem mW_258 : Cond.code ⟨"SafeCode$Classes", "join", "(II)I"⟩ prog_3_method_14_code 4 (some .int) ∈ lw_tbl.filter goodWord := mI_tables_1_5 (List.mem_of_getElem? (i := 136) rfl) rfl
