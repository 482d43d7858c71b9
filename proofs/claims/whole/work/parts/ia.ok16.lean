/-! Checks of methods. -/
theorem mD_92_0 : ck_t prog_14_method_79_code mT_92_0 = true := by decide +kernel
theorem mD_92_1 : ck_t prog_14_method_79_code mT_92_1 = true := by decide +kernel
theorem mD_92_2 : ck_t prog_14_method_79_code mT_92_2 = true := by decide +kernel
theorem mD_92_3 : ck_t prog_14_method_79_code mT_92_3 = true := by decide +kernel
theorem mD_92 : ck_t prog_14_method_79_code mT_92 = true := ck_t_app mD_92_0 (ck_t_app mD_92_1 (ck_t_app mD_92_2 mD_92_3))
theorem mO_92 : mC_92.all (ck_c lw_tbl (mi_ev []) mi_Gs mi_mq mi_fr mi_lo 92 "SafeCodeModel") = true := by decide +kernel
theorem mQ_92 : ck_q lw_tbl mi_cl mG_92 0 2 13 [265, 2794, 187] = true := by decide +kernel
set_option maxRecDepth 100000 in
theorem mW_92 : Cond.code ⟨"SafeCodeModel", "bring", "(LSafeCodeModel$Program;I)V"⟩ prog_14_method_79_code 6 (none) ∈ lw_tbl.filter goodWord := mI_tables_1_11 (List.mem_of_getElem? (i := 148) rfl) rfl
theorem mD_93_0 : ck_t prog_14_method_120_code mT_93_0 = true := by decide +kernel
theorem mD_93_1 : ck_t prog_14_method_120_code mT_93_1 = true := by decide +kernel
theorem mD_93_2 : ck_t prog_14_method_120_code mT_93_2 = true := by decide +kernel
theorem mD_93_3 : ck_t prog_14_method_120_code mT_93_3 = true := by decide +kernel
theorem mD_93_4 : ck_t prog_14_method_120_code mT_93_4 = true := by decide +kernel
theorem mD_93 : ck_t prog_14_method_120_code mT_93 = true := ck_t_app mD_93_0 (ck_t_app mD_93_1 (ck_t_app mD_93_2 (ck_t_app mD_93_3 mD_93_4)))
theorem mO_93 : mC_93.all (ck_c lw_tbl (mi_ev []) mi_Gs mi_mq mi_fr mi_lo 93 "SafeCodeModel") = true := by decide +kernel
theorem mQ_93 : ck_q lw_tbl mi_cl mG_93 0 3 13 [265, 2940, 218] = true := by decide +kernel
set_option maxRecDepth 100000 in
theorem mW_93 : Cond.code ⟨"SafeCodeModel", "call", "(LSafeCodeModel$Program;IZ)Z"⟩ prog_14_method_120_code 12 (some .boolean) ∈ lw_tbl.filter goodWord := mI_tables_1_12 (List.mem_of_getElem? (i := 54) rfl) rfl
theorem mD_94_0 : ck_t prog_14_method_160_code mT_94_0 = true := by decide +kernel
theorem mD_94_1 : ck_t prog_14_method_160_code mT_94_1 = true := by decide +kernel
theorem mD_94_2 : ck_t prog_14_method_160_code mT_94_2 = true := by decide +kernel
theorem mD_94 : ck_t prog_14_method_160_code mT_94 = true := ck_t_app mD_94_0 (ck_t_app mD_94_1 mD_94_2)
theorem mO_94 : mC_94.all (ck_c lw_tbl (mi_ev []) mi_Gs mi_mq mi_fr mi_lo 94 "SafeCodeModel") = true := by decide +kernel
theorem mQ_94 : ck_q lw_tbl mi_cl mG_94 0 3 13 [265, 3118, 246] = true := by decide +kernel
set_option maxRecDepth 100000 in
theorem mW_94 : Cond.code ⟨"SafeCodeModel", "callStep", "(III)V"⟩ prog_14_method_160_code 8 (none) ∈ lw_tbl.filter goodWord := mI_tables_1_12 (List.mem_of_getElem? (i := 232) rfl) rfl
theorem mD_95_0 : ck_t prog_14_method_45_code mT_95_0 = true := by decide +kernel
theorem mD_95_1 : ck_t prog_14_method_45_code mT_95_1 = true := by decide +kernel
theorem mD_95_2 : ck_t prog_14_method_45_code mT_95_2 = true := by decide +kernel
theorem mD_95 : ck_t prog_14_method_45_code mT_95 = true := ck_t_app mD_95_0 (ck_t_app mD_95_1 mD_95_2)
theorem mO_95 : mC_95.all (ck_c lw_tbl (mi_ev []) mi_Gs mi_mq mi_fr mi_lo 95 "SafeCodeModel") = true := by decide +kernel
theorem mQ_95 : ck_q lw_tbl mi_cl mG_95 0 4 13 [265, 2662, 164] = true := by decide +kernel
set_option maxRecDepth 100000 in
theorem mW_95 : Cond.code ⟨"SafeCodeModel", "catchLine", "(LSafeCodeModel$Program;III)Z"⟩ prog_14_method_45_code 9 (some .boolean) ∈ lw_tbl.filter goodWord := mI_tables_1_11 (List.mem_of_getElem? (i := 16) rfl) rfl
