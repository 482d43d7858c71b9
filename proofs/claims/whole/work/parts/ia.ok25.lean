/-! Checks of methods. -/
theorem mD_137_0 : ck_t prog_14_method_136_code mT_137_0 = true := by decide +kernel
theorem mD_137 : ck_t prog_14_method_136_code mT_137 = true := mD_137_0
theorem mO_137 : mC_137.all (ck_c lw_tbl (mi_ev []) mi_Gs mi_mq mi_fr mi_lo 137 "SafeCodeModel") = true := by decide +kernel
theorem mQ_137 : ck_q lw_tbl mi_cl mG_137 0 1 13 [265, 3022, 3023] = true := by decide +kernel
set_option maxRecDepth 100000 in
theorem mW_137 : Cond.code ⟨"SafeCodeModel", "input", "(I)Z"⟩ prog_14_method_136_code 2 (some .boolean) ∈ lw_tbl.filter goodWord := mI_tables_1_12 (List.mem_of_getElem? (i := 137) rfl) rfl
theorem mD_138_0 : ck_t prog_14_method_6_code mT_138_0 = true := by decide +kernel
theorem mD_138 : ck_t prog_14_method_6_code mT_138 = true := mD_138_0
theorem mO_138 : mC_138.all (ck_c lw_tbl (mi_ev []) mi_Gs mi_mq mi_fr mi_lo 138 "SafeCodeModel") = true := by decide +kernel
theorem mQ_138 : ck_q lw_tbl mi_cl mG_138 0 2 13 [265, 2493, 128] = true := by decide +kernel
set_option maxRecDepth 100000 in
theorem mW_138 : Cond.code ⟨"SafeCodeModel", "is", "(ILjava/lang/String;)Z"⟩ prog_14_method_6_code 4 (some .boolean) ∈ lw_tbl.filter goodWord := mI_tables_1_10 (List.mem_of_getElem? (i := 87) rfl) rfl
theorem mD_139_0 : ck_t prog_14_method_13_code mT_139_0 = true := by decide +kernel
theorem mD_139 : ck_t prog_14_method_13_code mT_139 = true := mD_139_0
theorem mO_139 : mC_139.all (ck_c lw_tbl (mi_ev []) mi_Gs mi_mq mi_fr mi_lo 139 "SafeCodeModel") = true := by decide +kernel
theorem mQ_139 : ck_q lw_tbl mi_cl mG_139 0 1 13 [265, 2527, 135] = true := by decide +kernel
set_option maxRecDepth 100000 in
theorem mW_139 : Cond.code ⟨"SafeCodeModel", "isArray", "(I)Z"⟩ prog_14_method_13_code 2 (some .boolean) ∈ lw_tbl.filter goodWord := mI_tables_1_10 (List.mem_of_getElem? (i := 121) rfl) rfl
theorem mD_140_0 : ck_t prog_14_method_62_code mT_140_0 = true := by decide +kernel
theorem mD_140 : ck_t prog_14_method_62_code mT_140 = true := mD_140_0
theorem mO_140 : mC_140.all (ck_c lw_tbl (mi_ev []) mi_Gs mi_mq mi_fr mi_lo 140 "SafeCodeModel") = true := by decide +kernel
theorem mQ_140 : ck_q lw_tbl mi_cl mG_140 3 1 0 [265, 2771] = true := by decide +kernel
set_option maxRecDepth 100000 in
theorem mW_140 : Cond.code ⟨"SafeCodeModel", "isArrayType", "(I)Z"⟩ prog_14_method_62_code 1 (some .boolean) ∈ lw_tbl.filter goodWord := mI_tables_1_11 (List.mem_of_getElem? (i := 125) rfl) rfl
theorem mD_141_0 : ck_t prog_14_method_145_code mT_141_0 = true := by decide +kernel
theorem mD_141 : ck_t prog_14_method_145_code mT_141 = true := mD_141_0
theorem mO_141 : mC_141.all (ck_c lw_tbl (mi_ev []) mi_Gs mi_mq mi_fr mi_lo 141 "SafeCodeModel") = true := by decide +kernel
theorem mQ_141 : ck_q lw_tbl mi_cl mG_141 0 1 13 [265, 3059, 232] = true := by decide +kernel
set_option maxRecDepth 100000 in
theorem mW_141 : Cond.code ⟨"SafeCodeModel", "isArrayValue", "(J)Z"⟩ prog_14_method_145_code 3 (some .boolean) ∈ lw_tbl.filter goodWord := mI_tables_1_12 (List.mem_of_getElem? (i := 173) rfl) rfl
theorem mD_142_0 : ck_t prog_14_method_28_code mT_142_0 = true := by decide +kernel
theorem mD_142 : ck_t prog_14_method_28_code mT_142 = true := mD_142_0
theorem mO_142 : mC_142.all (ck_c lw_tbl (mi_ev []) mi_Gs mi_mq mi_fr mi_lo 142 "SafeCodeModel") = true := by decide +kernel
theorem mQ_142 : ck_q lw_tbl mi_cl mG_142 3 3 0 [265, 2617] = true := by decide +kernel
set_option maxRecDepth 100000 in
theorem mW_142 : Cond.code ⟨"SafeCodeModel", "isAtOrBelow", "(LSafeCodeModel$Program;II)Z"⟩ prog_14_method_28_code 4 (some .boolean) ∈ lw_tbl.filter goodWord := mI_tables_1_10 (List.mem_of_getElem? (i := 211) rfl) rfl
