/-! Checks of methods. -/
theorem mD_67_0 : ck_t prog_14_method_136_code mT_67_0 = true := by decide +kernel
theorem mD_67 : ck_t prog_14_method_136_code mT_67 = true := mD_67_0
theorem mO_67 : mC_67.all (ck_c lw_tbl (mi_ev []) mi_Gs mi_mq mi_fr mi_lo 67 "SafeCodeModel") = true := by decide +kernel
theorem mQ_67 : ck_q lw_tbl mi_cl mG_67 0 1 13 [265, 3022, 3023] = true := by decide +kernel
set_option maxRecDepth 100000 in
theorem mW_67 : Cond.code ⟨"SafeCodeModel", "input", "(I)Z"⟩ prog_14_method_136_code 2 (some .boolean) ∈ lw_tbl.filter goodWord := mI_tables_1_12 (List.mem_of_getElem? (i := 137) rfl) rfl
theorem mD_68_0 : ck_t prog_14_method_125_code mT_68_0 = true := by decide +kernel
theorem mD_68 : ck_t prog_14_method_125_code mT_68 = true := mD_68_0
theorem mO_68 : mC_68.all (ck_c lw_tbl (mi_ev []) mi_Gs mi_mq mi_fr mi_lo 68 "SafeCodeModel") = true := by decide +kernel
theorem mQ_68 : ck_q lw_tbl mi_cl mG_68 0 1 13 [265, 2982, 225] = true := by decide +kernel
set_option maxRecDepth 100000 in
theorem mW_68 : Cond.code ⟨"SafeCodeModel", "isCode", "(I)Z"⟩ prog_14_method_125_code 2 (some .boolean) ∈ lw_tbl.filter goodWord := mI_tables_1_12 (List.mem_of_getElem? (i := 96) rfl) rfl
theorem mD_69_0 : ck_t prog_14_method_20_code mT_69_0 = true := by decide +kernel
theorem mD_69 : ck_t prog_14_method_20_code mT_69 = true := mD_69_0
theorem mO_69 : mC_69.all (ck_c lw_tbl (mi_ev []) mi_Gs mi_mq mi_fr mi_lo 69 "SafeCodeModel") = true := by decide +kernel
theorem mQ_69 : ck_q lw_tbl mi_cl mG_69 0 0 13 [265, 2488, 127] = true := by decide +kernel
set_option maxRecDepth 100000 in
theorem mW_69 : Cond.code ⟨"SafeCodeModel", "isProgram", "()Z"⟩ prog_14_method_20_code 1 (some .boolean) ∈ lw_tbl.filter goodWord := mI_tables_1_10 (List.mem_of_getElem? (i := 82) rfl) rfl
theorem mD_70_0 : ck_t prog_14_method_130_code mT_70_0 = true := by decide +kernel
theorem mD_70 : ck_t prog_14_method_130_code mT_70 = true := mD_70_0
theorem mO_70 : mC_70.all (ck_c lw_tbl (mi_ev []) mi_Gs mi_mq mi_fr mi_lo 70 "SafeCodeModel") = true := by decide +kernel
theorem mQ_70 : ck_q lw_tbl mi_cl mG_70 0 2 13 [265, 2993, 2994] = true := by decide +kernel
set_option maxRecDepth 100000 in
theorem mW_70 : Cond.code ⟨"SafeCodeModel", "kind", "(II)I"⟩ prog_14_method_130_code 4 (some .int) ∈ lw_tbl.filter goodWord := mI_tables_1_12 (List.mem_of_getElem? (i := 108) rfl) rfl
theorem mD_71_0 : ck_t prog_14_method_135_code mT_71_0 = true := by decide +kernel
theorem mD_71 : ck_t prog_14_method_135_code mT_71 = true := mD_71_0
theorem mO_71 : mC_71.all (ck_c lw_tbl (mi_ev []) mi_Gs mi_mq mi_fr mi_lo 71 "SafeCodeModel") = true := by decide +kernel
theorem mQ_71 : ck_q lw_tbl mi_cl mG_71 0 2 13 [265, 3018, 3019] = true := by decide +kernel
set_option maxRecDepth 100000 in
theorem mW_71 : Cond.code ⟨"SafeCodeModel", "lengths", "(II)I"⟩ prog_14_method_135_code 3 (some .int) ∈ lw_tbl.filter goodWord := mI_tables_1_12 (List.mem_of_getElem? (i := 133) rfl) rfl
theorem mD_72_0 : ck_t prog_14_method_40_code mT_72_0 = true := by decide +kernel
theorem mD_72 : ck_t prog_14_method_40_code mT_72 = true := mD_72_0
theorem mO_72 : mC_72.all (ck_c lw_tbl (mi_ev []) mi_Gs mi_mq mi_fr mi_lo 72 "SafeCodeModel") = true := by decide +kernel
theorem mQ_72 : ck_q lw_tbl mi_cl mG_72 0 1 13 [265, 2646, 160] = true := by decide +kernel
set_option maxRecDepth 100000 in
theorem mW_72 : Cond.code ⟨"SafeCodeModel", "lines", "(LSafeCodeModel$Program;)Z"⟩ prog_14_method_40_code 3 (some .boolean) ∈ lw_tbl.filter goodWord := mI_tables_1_11 (List.mem_of_getElem? (i := 0) rfl) rfl
