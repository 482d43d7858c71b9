/-! Checks of methods. -/
theorem mD_51_0 : ck_t prog_1_method_25_code mT_51_0 = true := by decide +kernel
theorem mD_51 : ck_t prog_1_method_25_code mT_51 = true := mD_51_0
theorem mO_51 : mC_51.all (ck_c lw_tbl (mi_ev []) mi_Gs mi_mq mi_fr mi_lo 51 "SafeCode") = true := by decide +kernel
theorem mQ_51 : ck_q lw_tbl mi_cl mG_51 0 0 11 [248, 2036, 2037] = true := by decide +kernel
set_option maxRecDepth 100000 in
theorem mW_51 : Cond.code ⟨"SafeCode", "thrown", "()I"⟩ prog_1_method_25_code 1 (some .int) ∈ lw_tbl.filter goodWord := mI_tables_1_8 (List.mem_of_getElem? (i := 111) rfl) rfl
theorem mD_52_0 : ck_t prog_1_method_26_code mT_52_0 = true := by decide +kernel
theorem mD_52 : ck_t prog_1_method_26_code mT_52 = true := mD_52_0
theorem mO_52 : mC_52.all (ck_c lw_tbl (mi_ev []) mi_Gs mi_mq mi_fr mi_lo 52 "SafeCode") = true := by decide +kernel
theorem mQ_52 : ck_q lw_tbl mi_cl mG_52 0 0 11 [248, 2040, 2041] = true := by decide +kernel
set_option maxRecDepth 100000 in
theorem mW_52 : Cond.code ⟨"SafeCode", "written", "()I"⟩ prog_1_method_26_code 1 (some .int) ∈ lw_tbl.filter goodWord := mI_tables_1_8 (List.mem_of_getElem? (i := 115) rfl) rfl
theorem mD_53_0 : ck_t prog_15_method_1_code mT_53_0 = true := by decide +kernel
theorem mD_53_1 : ck_t prog_15_method_1_code mT_53_1 = true := by decide +kernel
theorem mD_53_2 : ck_t prog_15_method_1_code mT_53_2 = true := by decide +kernel
theorem mD_53_3 : ck_t prog_15_method_1_code mT_53_3 = true := by decide +kernel
theorem mD_53_4 : ck_t prog_15_method_1_code mT_53_4 = true := by decide +kernel
theorem mD_53 : ck_t prog_15_method_1_code mT_53 = true := ck_t_app mD_53_0 (ck_t_app mD_53_1 (ck_t_app mD_53_2 (ck_t_app mD_53_3 mD_53_4)))
theorem mO_53 : mC_53.all (ck_c lw_tbl (mi_ev []) mi_Gs mi_mq mi_fr mi_lo 53 "SafeCodeModel$Program") = true := by decide +kernel
theorem mQ_53 : ck_q lw_tbl mi_cl mG_53 1 0 0 [266, 2060] = true := by decide +kernel
set_option maxRecDepth 100000 in
theorem mW_53 : Cond.code ⟨"SafeCodeModel$Program", "<init>", "()V"⟩ prog_15_method_1_code 1 (none) ∈ lw_tbl.filter goodWord := mI_tables_1_8 (List.mem_of_getElem? (i := 134) rfl) rfl
theorem mD_54_0 : ck_t prog_14_method_25_code mT_54_0 = true := by decide +kernel
theorem mD_54 : ck_t prog_14_method_25_code mT_54 = true := mD_54_0
theorem mO_54 : mC_54.all (ck_c lw_tbl (mi_ev []) mi_Gs mi_mq mi_fr mi_lo 54 "SafeCodeModel") = true := by decide +kernel
theorem mQ_54 : ck_q lw_tbl mi_cl mG_54 0 1 13 [265, 2590, 147] = true := by decide +kernel
set_option maxRecDepth 100000 in
theorem mW_54 : Cond.code ⟨"SafeCodeModel", "classCount", "(LSafeCodeModel$Program;)I"⟩ prog_14_method_25_code 2 (some .int) ∈ lw_tbl.filter goodWord := mI_tables_1_10 (List.mem_of_getElem? (i := 184) rfl) rfl
theorem mD_55_0 : ck_t prog_14_method_33_code mT_55_0 = true := by decide +kernel
theorem mD_55 : ck_t prog_14_method_33_code mT_55 = true := mD_55_0
theorem mO_55 : mC_55.all (ck_c lw_tbl (mi_ev []) mi_Gs mi_mq mi_fr mi_lo 55 "SafeCodeModel") = true := by decide +kernel
theorem mQ_55 : ck_q lw_tbl mi_cl mG_55 0 1 13 [265, 2577, 144] = true := by decide +kernel
set_option maxRecDepth 100000 in
theorem mW_55 : Cond.code ⟨"SafeCodeModel", "classNames", "(LSafeCodeModel$Program;)Z"⟩ prog_14_method_33_code 4 (some .boolean) ∈ lw_tbl.filter goodWord := mI_tables_1_10 (List.mem_of_getElem? (i := 171) rfl) rfl
