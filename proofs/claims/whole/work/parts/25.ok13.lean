/-! Checks of methods. -/
theorem mD_73_0 : ck_t prog_14_method_122_code mT_73_0 = true := by decide +kernel
theorem mD_73 : ck_t prog_14_method_122_code mT_73 = true := mD_73_0
theorem mO_73 : mC_73.all (ck_c lw_tbl (mi_ev []) mi_Gs mi_mq mi_fr mi_lo 73 "SafeCodeModel") = true := by decide +kernel
theorem mQ_73 : ck_q lw_tbl mi_cl mG_73 0 0 13 [265, 2475, 2476] = true := by decide +kernel
set_option maxRecDepth 100000 in
theorem mW_73 : Cond.code ⟨"SafeCodeModel", "load", "()I"⟩ prog_14_method_122_code 3 (some .int) ∈ lw_tbl.filter goodWord := mI_tables_1_10 (List.mem_of_getElem? (i := 70) rfl) rfl
theorem mD_74_0 : ck_t prog_14_method_131_code mT_74_0 = true := by decide +kernel
theorem mD_74 : ck_t prog_14_method_131_code mT_74 = true := mD_74_0
theorem mO_74 : mC_74.all (ck_c lw_tbl (mi_ev []) mi_Gs mi_mq mi_fr mi_lo 74 "SafeCodeModel") = true := by decide +kernel
theorem mQ_74 : ck_q lw_tbl mi_cl mG_74 0 2 13 [265, 3001, 3002] = true := by decide +kernel
set_option maxRecDepth 100000 in
theorem mW_74 : Cond.code ⟨"SafeCodeModel", "low", "(II)I"⟩ prog_14_method_131_code 3 (some .int) ∈ lw_tbl.filter goodWord := mI_tables_1_12 (List.mem_of_getElem? (i := 116) rfl) rfl
theorem mD_75_0 : ck_t prog_14_method_36_code mT_75_0 = true := by decide +kernel
theorem mD_75 : ck_t prog_14_method_36_code mT_75 = true := mD_75_0
theorem mO_75 : mC_75.all (ck_c lw_tbl (mi_ev []) mi_Gs mi_mq mi_fr mi_lo 75 "SafeCodeModel") = true := by decide +kernel
theorem mQ_75 : ck_q lw_tbl mi_cl mG_75 0 1 13 [265, 2606, 151] = true := by decide +kernel
set_option maxRecDepth 100000 in
theorem mW_75 : Cond.code ⟨"SafeCodeModel", "members", "(LSafeCodeModel$Program;)Z"⟩ prog_14_method_36_code 4 (some .boolean) ∈ lw_tbl.filter goodWord := mI_tables_1_10 (List.mem_of_getElem? (i := 200) rfl) rfl
theorem mD_76_0 : ck_t prog_14_method_165_code mT_76_0 = true := by decide +kernel
theorem mD_76 : ck_t prog_14_method_165_code mT_76 = true := mD_76_0
theorem mO_76 : mC_76.all (ck_c lw_tbl (mi_ev []) mi_Gs mi_mq mi_fr mi_lo 76 "SafeCodeModel") = true := by decide +kernel
theorem mQ_76 : ck_q lw_tbl mi_cl mG_76 0 1 13 [265, 3137, 3138] = true := by decide +kernel
set_option maxRecDepth 100000 in
theorem mW_76 : Cond.code ⟨"SafeCodeModel", "out", "(I)I"⟩ prog_14_method_165_code 2 (some .int) ∈ lw_tbl.filter goodWord := mI_tables_1_13 (List.mem_of_getElem? (i := 12) rfl) rfl
theorem mD_77_0 : ck_t prog_14_method_162_code mT_77_0 = true := by decide +kernel
theorem mD_77 : ck_t prog_14_method_162_code mT_77 = true := mD_77_0
theorem mO_77 : mC_77.all (ck_c lw_tbl (mi_ev []) mi_Gs mi_mq mi_fr mi_lo 77 "SafeCodeModel") = true := by decide +kernel
theorem mQ_77 : ck_q lw_tbl mi_cl mG_77 0 0 13 [265, 3125, 3126] = true := by decide +kernel
set_option maxRecDepth 100000 in
theorem mW_77 : Cond.code ⟨"SafeCodeModel", "place", "()I"⟩ prog_14_method_162_code 1 (some .int) ∈ lw_tbl.filter goodWord := mI_tables_1_13 (List.mem_of_getElem? (i := 0) rfl) rfl
theorem mD_78_0 : ck_t prog_14_method_137_code mT_78_0 = true := by decide +kernel
theorem mD_78_1 : ck_t prog_14_method_137_code mT_78_1 = true := by decide +kernel
theorem mD_78_2 : ck_t prog_14_method_137_code mT_78_2 = true := by decide +kernel
theorem mD_78 : ck_t prog_14_method_137_code mT_78 = true := ck_t_app mD_78_0 (ck_t_app mD_78_1 mD_78_2)
theorem mO_78 : mC_78.all (ck_c lw_tbl (mi_ev []) mi_Gs mi_mq mi_fr mi_lo 78 "SafeCodeModel") = true := by decide +kernel
theorem mQ_78 : ck_q lw_tbl mi_cl mG_78 0 1 13 [265, 3026, 3027] = true := by decide +kernel
set_option maxRecDepth 100000 in
theorem mW_78 : Cond.code ⟨"SafeCodeModel", "run", "(I)I"⟩ prog_14_method_137_code 3 (some .int) ∈ lw_tbl.filter goodWord := mI_tables_1_12 (List.mem_of_getElem? (i := 141) rfl) rfl
