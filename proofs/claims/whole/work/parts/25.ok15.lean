/-! Checks of methods. -/
theorem mD_84_0 : ck_t prog_14_method_166_code mT_84_0 = true := by decide +kernel
theorem mD_84 : ck_t prog_14_method_166_code mT_84 = true := mD_84_0
theorem mO_84 : mC_84.all (ck_c lw_tbl (mi_ev []) mi_Gs mi_mq mi_fr mi_lo 84 "SafeCodeModel") = true := by decide +kernel
theorem mQ_84 : ck_q lw_tbl mi_cl mG_84 0 0 13 [265, 3141, 3142] = true := by decide +kernel
set_option maxRecDepth 100000 in
theorem mW_84 : Cond.code ⟨"SafeCodeModel", "strays", "()I"⟩ prog_14_method_166_code 1 (some .int) ∈ lw_tbl.filter goodWord := mI_tables_1_13 (List.mem_of_getElem? (i := 16) rfl) rfl
theorem mD_85_0 : ck_t prog_14_method_51_code mT_85_0 = true := by decide +kernel
theorem mD_85 : ck_t prog_14_method_51_code mT_85 = true := mD_85_0
theorem mO_85 : mC_85.all (ck_c lw_tbl (mi_ev []) mi_Gs mi_mq mi_fr mi_lo 85 "SafeCodeModel") = true := by decide +kernel
theorem mQ_85 : ck_q lw_tbl mi_cl mG_85 0 2 13 [265, 2678, 168] = true := by decide +kernel
set_option maxRecDepth 100000 in
theorem mW_85 : Cond.code ⟨"SafeCodeModel", "threshold", "(LSafeCodeModel$Program;J)V"⟩ prog_14_method_51_code 6 (none) ∈ lw_tbl.filter goodWord := mI_tables_1_11 (List.mem_of_getElem? (i := 32) rfl) rfl
theorem mD_86_0 : ck_t prog_14_method_163_code mT_86_0 = true := by decide +kernel
theorem mD_86 : ck_t prog_14_method_163_code mT_86 = true := mD_86_0
theorem mO_86 : mC_86.all (ck_c lw_tbl (mi_ev []) mi_Gs mi_mq mi_fr mi_lo 86 "SafeCodeModel") = true := by decide +kernel
theorem mQ_86 : ck_q lw_tbl mi_cl mG_86 0 0 13 [265, 3129, 3130] = true := by decide +kernel
set_option maxRecDepth 100000 in
theorem mW_86 : Cond.code ⟨"SafeCodeModel", "thrown", "()I"⟩ prog_14_method_163_code 1 (some .int) ∈ lw_tbl.filter goodWord := mI_tables_1_13 (List.mem_of_getElem? (i := 4) rfl) rfl
theorem mD_87_0 : ck_t prog_14_method_2_code mT_87_0 = true := by decide +kernel
theorem mD_87 : ck_t prog_14_method_2_code mT_87 = true := mD_87_0
theorem mO_87 : mC_87.all (ck_c lw_tbl (mi_ev []) mi_Gs mi_mq mi_fr mi_lo 87 "SafeCodeModel") = true := by decide +kernel
theorem mQ_87 : ck_q lw_tbl mi_cl mG_87 0 1 13 [265, 2468, 124] = true := by decide +kernel
set_option maxRecDepth 100000 in
theorem mW_87 : Cond.code ⟨"SafeCodeModel", "word", "(I)V"⟩ prog_14_method_2_code 3 (none) ∈ lw_tbl.filter goodWord := mI_tables_1_10 (List.mem_of_getElem? (i := 62) rfl) rfl
theorem mD_88_0 : ck_t prog_14_method_164_code mT_88_0 = true := by decide +kernel
theorem mD_88 : ck_t prog_14_method_164_code mT_88 = true := mD_88_0
theorem mO_88 : mC_88.all (ck_c lw_tbl (mi_ev []) mi_Gs mi_mq mi_fr mi_lo 88 "SafeCodeModel") = true := by decide +kernel
theorem mQ_88 : ck_q lw_tbl mi_cl mG_88 0 0 13 [265, 3133, 3134] = true := by decide +kernel
set_option maxRecDepth 100000 in
theorem mW_88 : Cond.code ⟨"SafeCodeModel", "written", "()I"⟩ prog_14_method_164_code 1 (some .int) ∈ lw_tbl.filter goodWord := mI_tables_1_13 (List.mem_of_getElem? (i := 8) rfl) rfl
theorem mD_89_0 : ck_t prog_14_method_32_code mT_89_0 = true := by decide +kernel
theorem mD_89 : ck_t prog_14_method_32_code mT_89 = true := mD_89_0
theorem mO_89 : mC_89.all (ck_c lw_tbl (mi_ev []) mi_Gs mi_mq mi_fr mi_lo 89 "SafeCodeModel") = true := by decide +kernel
theorem mQ_89 : ck_q lw_tbl mi_cl mG_89 0 1 13 [265, 2598, 149] = true := by decide +kernel
set_option maxRecDepth 100000 in
theorem mW_89 : Cond.code ⟨"SafeCodeModel", "wrong", "(I)Z"⟩ prog_14_method_32_code 2 (some .boolean) ∈ lw_tbl.filter goodWord := mI_tables_1_10 (List.mem_of_getElem? (i := 192) rfl) rfl
