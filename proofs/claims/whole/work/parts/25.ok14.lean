/-! Checks of methods. -/
theorem mD_79_0 : ck_t prog_14_method_52_code mT_79_0 = true := by decide +kernel
theorem mD_79_1 : ck_t prog_14_method_52_code mT_79_1 = true := by decide +kernel
theorem mD_79_2 : ck_t prog_14_method_52_code mT_79_2 = true := by decide +kernel
theorem mD_79_3 : ck_t prog_14_method_52_code mT_79_3 = true := by decide +kernel
theorem mD_79_4 : ck_t prog_14_method_52_code mT_79_4 = true := by decide +kernel
theorem mD_79 : ck_t prog_14_method_52_code mT_79 = true := ck_t_app mD_79_0 (ck_t_app mD_79_1 (ck_t_app mD_79_2 (ck_t_app mD_79_3 mD_79_4)))
theorem mO_79 : mC_79.all (ck_c lw_tbl (mi_ev []) mi_Gs mi_mq mi_fr mi_lo 79 "SafeCodeModel") = true := by decide +kernel
theorem mQ_79 : ck_q lw_tbl mi_cl mG_79 0 1 13 [265, 2694, 172] = true := by decide +kernel
set_option maxRecDepth 100000 in
theorem mW_79 : Cond.code ⟨"SafeCodeModel", "settled", "(LSafeCodeModel$Program;)Z"⟩ prog_14_method_52_code 5 (some .boolean) ∈ lw_tbl.filter goodWord := mI_tables_1_11 (List.mem_of_getElem? (i := 48) rfl) rfl
theorem mD_80_0 : ck_t prog_14_method_133_code mT_80_0 = true := by decide +kernel
theorem mD_80 : ck_t prog_14_method_133_code mT_80 = true := mD_80_0
theorem mO_80 : mC_80.all (ck_c lw_tbl (mi_ev []) mi_Gs mi_mq mi_fr mi_lo 80 "SafeCodeModel") = true := by decide +kernel
theorem mQ_80 : ck_q lw_tbl mi_cl mG_80 0 2 13 [265, 3010, 3011] = true := by decide +kernel
set_option maxRecDepth 100000 in
theorem mW_80 : Cond.code ⟨"SafeCodeModel", "sites", "(II)J"⟩ prog_14_method_133_code 3 (some .long) ∈ lw_tbl.filter goodWord := mI_tables_1_12 (List.mem_of_getElem? (i := 125) rfl) rfl
theorem mD_81_0 : ck_t prog_14_method_124_code mT_81_0 = true := by decide +kernel
theorem mD_81 : ck_t prog_14_method_124_code mT_81 = true := mD_81_0
theorem mO_81 : mC_81.all (ck_c lw_tbl (mi_ev []) mi_Gs mi_mq mi_fr mi_lo 81 "SafeCodeModel") = true := by decide +kernel
theorem mQ_81 : ck_q lw_tbl mi_cl mG_81 0 1 13 [265, 2973, 2974] = true := by decide +kernel
set_option maxRecDepth 100000 in
theorem mW_81 : Cond.code ⟨"SafeCodeModel", "size", "(I)I"⟩ prog_14_method_124_code 2 (some .int) ∈ lw_tbl.filter goodWord := mI_tables_1_12 (List.mem_of_getElem? (i := 88) rfl) rfl
theorem mD_82_0 : ck_t prog_14_method_129_code mT_82_0 = true := by decide +kernel
theorem mD_82 : ck_t prog_14_method_129_code mT_82 = true := mD_82_0
theorem mO_82 : mC_82.all (ck_c lw_tbl (mi_ev []) mi_Gs mi_mq mi_fr mi_lo 82 "SafeCodeModel") = true := by decide +kernel
theorem mQ_82 : ck_q lw_tbl mi_cl mG_82 0 2 13 [265, 2998, 226] = true := by decide +kernel
set_option maxRecDepth 100000 in
theorem mW_82 : Cond.code ⟨"SafeCodeModel", "slot", "(II)I"⟩ prog_14_method_129_code 3 (some .int) ∈ lw_tbl.filter goodWord := mI_tables_1_12 (List.mem_of_getElem? (i := 112) rfl) rfl
theorem mD_83_0 : ck_t prog_14_method_161_code mT_83_0 = true := by decide +kernel
theorem mD_83 : ck_t prog_14_method_161_code mT_83 = true := mD_83_0
theorem mO_83 : mC_83.all (ck_c lw_tbl (mi_ev []) mi_Gs mi_mq mi_fr mi_lo 83 "SafeCodeModel") = true := by decide +kernel
theorem mQ_83 : ck_q lw_tbl mi_cl mG_83 0 0 13 [265, 3121, 3122] = true := by decide +kernel
set_option maxRecDepth 100000 in
theorem mW_83 : Cond.code ⟨"SafeCodeModel", "steps", "()I"⟩ prog_14_method_161_code 1 (some .int) ∈ lw_tbl.filter goodWord := mI_tables_1_12 (List.mem_of_getElem? (i := 236) rfl) rfl
