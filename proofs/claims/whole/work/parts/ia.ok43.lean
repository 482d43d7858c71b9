/-! Checks of methods. -/
theorem mD_237_0 : ck_t prog_14_method_66_code mT_237_0 = true := by decide +kernel
theorem mD_237_1 : ck_t prog_14_method_66_code mT_237_1 = true := by decide +kernel
theorem mD_237_2 : ck_t prog_14_method_66_code mT_237_2 = true := by decide +kernel
theorem mD_237_3 : ck_t prog_14_method_66_code mT_237_3 = true := by decide +kernel
theorem mD_237 : ck_t prog_14_method_66_code mT_237 = true := ck_t_app mD_237_0 (ck_t_app mD_237_1 (ck_t_app mD_237_2 mD_237_3))
theorem mO_237 : mC_237.all (ck_c lw_tbl (mi_ev []) mi_Gs mi_mq mi_fr mi_lo 237 "SafeCodeModel") = true := by decide +kernel
theorem mQ_237 : ck_q lw_tbl mi_cl mG_237 0 2 13 [265, 2729, 176] = true := by decide +kernel
set_option maxRecDepth 100000 in
theorem mW_237 : Cond.code ⟨"SafeCodeModel", "types", "(LSafeCodeModel$Program;I)Z"⟩ prog_14_method_66_code 6 (some .boolean) ∈ lw_tbl.filter goodWord := mI_tables_1_11 (List.mem_of_getElem? (i := 83) rfl) rfl
theorem mD_238_0 : ck_t prog_14_method_67_code mT_238_0 = true := by decide +kernel
theorem mD_238 : ck_t prog_14_method_67_code mT_238 = true := mD_238_0
theorem mO_238 : mC_238.all (ck_c lw_tbl (mi_ev []) mi_Gs mi_mq mi_fr mi_lo 238 "SafeCodeModel") = true := by decide +kernel
theorem mQ_238 : ck_q lw_tbl mi_cl mG_238 0 2 13 [265, 2737, 178] = true := by decide +kernel
set_option maxRecDepth 100000 in
theorem mW_238 : Cond.code ⟨"SafeCodeModel", "typesAt", "(LSafeCodeModel$Program;I)V"⟩ prog_14_method_67_code 4 (none) ∈ lw_tbl.filter goodWord := mI_tables_1_11 (List.mem_of_getElem? (i := 91) rfl) rfl
theorem mD_239_0 : ck_t prog_14_method_71_code mT_239_0 = true := by decide +kernel
theorem mD_239_1 : ck_t prog_14_method_71_code mT_239_1 = true := by decide +kernel
theorem mD_239_2 : ck_t prog_14_method_71_code mT_239_2 = true := by decide +kernel
theorem mD_239_3 : ck_t prog_14_method_71_code mT_239_3 = true := by decide +kernel
theorem mD_239 : ck_t prog_14_method_71_code mT_239 = true := ck_t_app mD_239_0 (ck_t_app mD_239_1 (ck_t_app mD_239_2 mD_239_3))
theorem mO_239 : mC_239.all (ck_c lw_tbl (mi_ev []) mi_Gs mi_mq mi_fr mi_lo 239 "SafeCodeModel") = true := by decide +kernel
theorem mQ_239 : ck_q lw_tbl mi_cl mG_239 0 2 13 [265, 2754, 180] = true := by decide +kernel
set_option maxRecDepth 100000 in
theorem mW_239 : Cond.code ⟨"SafeCodeModel", "typesBehind", "(LSafeCodeModel$Program;I)V"⟩ prog_14_method_71_code 7 (none) ∈ lw_tbl.filter goodWord := mI_tables_1_11 (List.mem_of_getElem? (i := 108) rfl) rfl
theorem mD_240_0 : ck_t prog_14_method_68_code mT_240_0 = true := by decide +kernel
theorem mD_240_1 : ck_t prog_14_method_68_code mT_240_1 = true := by decide +kernel
theorem mD_240_2 : ck_t prog_14_method_68_code mT_240_2 = true := by decide +kernel
theorem mD_240 : ck_t prog_14_method_68_code mT_240 = true := ck_t_app mD_240_0 (ck_t_app mD_240_1 mD_240_2)
theorem mO_240 : mC_240.all (ck_c lw_tbl (mi_ev []) mi_Gs mi_mq mi_fr mi_lo 240 "SafeCodeModel") = true := by decide +kernel
theorem mQ_240 : ck_q lw_tbl mi_cl mG_240 0 2 13 [265, 2733, 177] = true := by decide +kernel
set_option maxRecDepth 100000 in
theorem mW_240 : Cond.code ⟨"SafeCodeModel", "typesOn", "(LSafeCodeModel$Program;I)Z"⟩ prog_14_method_68_code 5 (some .boolean) ∈ lw_tbl.filter goodWord := mI_tables_1_11 (List.mem_of_getElem? (i := 87) rfl) rfl
