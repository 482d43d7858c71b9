/-! Checks of methods. -/
theorem mD_133_0 : ck_t prog_14_method_146_code mT_133_0 = true := by decide +kernel
theorem mD_133 : ck_t prog_14_method_146_code mT_133 = true := mD_133_0
theorem mO_133 : mC_133.all (ck_c lw_tbl (mi_ev []) mi_Gs mi_mq mi_fr mi_lo 133 "SafeCodeModel") = true := by decide +kernel
theorem mQ_133 : ck_q lw_tbl mi_cl mG_133 0 1 13 [265, 3036, 228] = true := by decide +kernel
set_option maxRecDepth 100000 in
theorem mW_133 : Cond.code ⟨"SafeCodeModel", "holds", "(I)Z"⟩ prog_14_method_146_code 5 (some .boolean) ∈ lw_tbl.filter goodWord := mI_tables_1_12 (List.mem_of_getElem? (i := 150) rfl) rfl
theorem mD_134_0 : ck_t prog_14_method_53_code mT_134_0 = true := by decide +kernel
theorem mD_134 : ck_t prog_14_method_53_code mT_134 = true := mD_134_0
theorem mO_134 : mC_134.all (ck_c lw_tbl (mi_ev []) mi_Gs mi_mq mi_fr mi_lo 134 "SafeCodeModel") = true := by decide +kernel
theorem mQ_134 : ck_q lw_tbl mi_cl mG_134 3 2 0 [265, 2709] = true := by decide +kernel
set_option maxRecDepth 100000 in
theorem mW_134 : Cond.code ⟨"SafeCodeModel", "howMany", "(LSafeCodeModel$Program;I)I"⟩ prog_14_method_53_code 3 (some .int) ∈ lw_tbl.filter goodWord := mI_tables_1_11 (List.mem_of_getElem? (i := 63) rfl) rfl
theorem mD_135_0 : ck_t prog_14_method_117_code mT_135_0 = true := by decide +kernel
theorem mD_135_1 : ck_t prog_14_method_117_code mT_135_1 = true := by decide +kernel
theorem mD_135_2 : ck_t prog_14_method_117_code mT_135_2 = true := by decide +kernel
theorem mD_135_3 : ck_t prog_14_method_117_code mT_135_3 = true := by decide +kernel
theorem mD_135_4 : ck_t prog_14_method_117_code mT_135_4 = true := by decide +kernel
theorem mD_135_5 : ck_t prog_14_method_117_code mT_135_5 = true := by decide +kernel
theorem mD_135 : ck_t prog_14_method_117_code mT_135 = true := ck_t_app mD_135_0 (ck_t_app mD_135_1 (ck_t_app mD_135_2 (ck_t_app mD_135_3 (ck_t_app mD_135_4 mD_135_5))))
theorem mO_135 : mC_135.all (ck_c lw_tbl (mi_ev []) mi_Gs mi_mq mi_fr mi_lo 135 "SafeCodeModel") = true := by decide +kernel
theorem mQ_135 : ck_q lw_tbl mi_cl mG_135 0 3 13 [265, 2920, 214] = true := by decide +kernel
set_option maxRecDepth 100000 in
theorem mW_135 : Cond.code ⟨"SafeCodeModel", "index", "(LSafeCodeModel$Program;II)Z"⟩ prog_14_method_117_code 14 (some .boolean) ∈ lw_tbl.filter goodWord := mI_tables_1_12 (List.mem_of_getElem? (i := 34) rfl) rfl
theorem mD_136_0 : ck_t prog_14_method_1_code mT_136_0 = true := by decide +kernel
theorem mD_136_1 : ck_t prog_14_method_1_code mT_136_1 = true := by decide +kernel
theorem mD_136_2 : ck_t prog_14_method_1_code mT_136_2 = true := by decide +kernel
theorem mD_136_3 : ck_t prog_14_method_1_code mT_136_3 = true := by decide +kernel
theorem mD_136_4 : ck_t prog_14_method_1_code mT_136_4 = true := by decide +kernel
theorem mD_136 : ck_t prog_14_method_1_code mT_136 = true := ck_t_app mD_136_0 (ck_t_app mD_136_1 (ck_t_app mD_136_2 (ck_t_app mD_136_3 mD_136_4)))
theorem mO_136 : mC_136.all (ck_c lw_tbl (mi_ev []) mi_Gs mi_mq mi_fr mi_lo 136 "SafeCodeModel") = true := by decide +kernel
theorem mQ_136 : ck_q lw_tbl mi_cl mG_136 1 0 0 [265, 2054] = true := by decide +kernel
set_option maxRecDepth 100000 in
theorem mW_136 : Cond.code ⟨"SafeCodeModel", "<init>", "()V"⟩ prog_14_method_1_code 1 (none) ∈ lw_tbl.filter goodWord := mI_tables_1_8 (List.mem_of_getElem? (i := 128) rfl) rfl
