/-! Checks of methods. -/
theorem mD_62_0 : ck_t prog_14_method_121_code mT_62_0 = true := by decide +kernel
theorem mD_62 : ck_t prog_14_method_121_code mT_62 = true := mD_62_0
theorem mO_62 : mC_62.all (ck_c lw_tbl (mi_ev []) mi_Gs mi_mq mi_fr mi_lo 62 "SafeCodeModel") = true := by decide +kernel
theorem mQ_62 : ck_q lw_tbl mi_cl mG_62 0 1 13 [265, 2480, 125] = true := by decide +kernel
set_option maxRecDepth 100000 in
theorem mW_62 : Cond.code ⟨"SafeCodeModel", "fault", "(LSafeCodeModel$Program;)I"⟩ prog_14_method_121_code 3 (some .int) ∈ lw_tbl.filter goodWord := mI_tables_1_10 (List.mem_of_getElem? (i := 74) rfl) rfl
theorem mD_63_0 : ck_t prog_14_method_123_code mT_63_0 = true := by decide +kernel
theorem mD_63 : ck_t prog_14_method_123_code mT_63 = true := mD_63_0
theorem mO_63 : mC_63.all (ck_c lw_tbl (mi_ev []) mi_Gs mi_mq mi_fr mi_lo 63 "SafeCodeModel") = true := by decide +kernel
theorem mQ_63 : ck_q lw_tbl mi_cl mG_63 0 0 13 [265, 2969, 2970] = true := by decide +kernel
set_option maxRecDepth 100000 in
theorem mW_63 : Cond.code ⟨"SafeCodeModel", "faultAt", "()I"⟩ prog_14_method_123_code 1 (some .int) ∈ lw_tbl.filter goodWord := mI_tables_1_12 (List.mem_of_getElem? (i := 84) rfl) rfl
theorem mD_64_0 : ck_t prog_14_method_3_code mT_64_0 = true := by decide +kernel
theorem mD_64 : ck_t prog_14_method_3_code mT_64 = true := mD_64_0
theorem mO_64 : mC_64.all (ck_c lw_tbl (mi_ev []) mi_Gs mi_mq mi_fr mi_lo 64 "SafeCodeModel") = true := by decide +kernel
theorem mQ_64 : ck_q lw_tbl mi_cl mG_64 0 5 13 [265, 2462, 2463] = true := by decide +kernel
set_option maxRecDepth 100000 in
theorem mW_64 : Cond.code ⟨"SafeCodeModel", "feed", "(IIIII)I"⟩ prog_14_method_3_code 6 (some .int) ∈ lw_tbl.filter goodWord := mI_tables_1_10 (List.mem_of_getElem? (i := 57) rfl) rfl
theorem mD_65_0 : ck_t prog_14_method_132_code mT_65_0 = true := by decide +kernel
theorem mD_65 : ck_t prog_14_method_132_code mT_65 = true := mD_65_0
theorem mO_65 : mC_65.all (ck_c lw_tbl (mi_ev []) mi_Gs mi_mq mi_fr mi_lo 65 "SafeCodeModel") = true := by decide +kernel
theorem mQ_65 : ck_q lw_tbl mi_cl mG_65 0 2 13 [265, 3006, 3007] = true := by decide +kernel
set_option maxRecDepth 100000 in
theorem mW_65 : Cond.code ⟨"SafeCodeModel", "high", "(II)I"⟩ prog_14_method_132_code 3 (some .int) ∈ lw_tbl.filter goodWord := mI_tables_1_12 (List.mem_of_getElem? (i := 121) rfl) rfl
theorem mD_66_0 : ck_t prog_14_method_1_code mT_66_0 = true := by decide +kernel
theorem mD_66_1 : ck_t prog_14_method_1_code mT_66_1 = true := by decide +kernel
theorem mD_66_2 : ck_t prog_14_method_1_code mT_66_2 = true := by decide +kernel
theorem mD_66_3 : ck_t prog_14_method_1_code mT_66_3 = true := by decide +kernel
theorem mD_66_4 : ck_t prog_14_method_1_code mT_66_4 = true := by decide +kernel
theorem mD_66 : ck_t prog_14_method_1_code mT_66 = true := ck_t_app mD_66_0 (ck_t_app mD_66_1 (ck_t_app mD_66_2 (ck_t_app mD_66_3 mD_66_4)))
theorem mO_66 : mC_66.all (ck_c lw_tbl (mi_ev []) mi_Gs mi_mq mi_fr mi_lo 66 "SafeCodeModel") = true := by decide +kernel
theorem mQ_66 : ck_q lw_tbl mi_cl mG_66 1 0 0 [265, 2054] = true := by decide +kernel
set_option maxRecDepth 100000 in
theorem mW_66 : Cond.code ⟨"SafeCodeModel", "<init>", "()V"⟩ prog_14_method_1_code 1 (none) ∈ lw_tbl.filter goodWord := mI_tables_1_8 (List.mem_of_getElem? (i := 128) rfl) rfl
