/-! Checks of methods. -/
theorem mD_128_0 : ck_t prog_14_method_60_code mT_128_0 = true := by decide +kernel
theorem mD_128 : ck_t prog_14_method_60_code mT_128 = true := mD_128_0
theorem mO_128 : mC_128.all (ck_c lw_tbl (mi_ev []) mi_Gs mi_mq mi_fr mi_lo 128 "SafeCodeModel") = true := by decide +kernel
theorem mQ_128 : ck_q lw_tbl mi_cl mG_128 0 2 13 [265, 2706, 174] = true := by decide +kernel
set_option maxRecDepth 100000 in
theorem mW_128 : Cond.code ⟨"SafeCodeModel", "goodHeights", "(LSafeCodeModel$Program;I)I"⟩ prog_14_method_60_code 6 (some .int) ∈ lw_tbl.filter goodWord := mI_tables_1_11 (List.mem_of_getElem? (i := 60) rfl) rfl
theorem mD_129_0 : ck_t prog_14_method_56_code mT_129_0 = true := by decide +kernel
theorem mD_129 : ck_t prog_14_method_56_code mT_129 = true := mD_129_0
theorem mO_129 : mC_129.all (ck_c lw_tbl (mi_ev []) mi_Gs mi_mq mi_fr mi_lo 129 "SafeCodeModel") = true := by decide +kernel
theorem mQ_129 : ck_q lw_tbl mi_cl mG_129 3 1 0 [265, 2722] = true := by decide +kernel
set_option maxRecDepth 100000 in
theorem mW_129 : Cond.code ⟨"SafeCodeModel", "hasLabel", "(I)Z"⟩ prog_14_method_56_code 1 (some .boolean) ∈ lw_tbl.filter goodWord := mI_tables_1_11 (List.mem_of_getElem? (i := 76) rfl) rfl
theorem mD_130_0 : ck_t prog_14_method_55_code mT_130_0 = true := by decide +kernel
theorem mD_130 : ck_t prog_14_method_55_code mT_130 = true := mD_130_0
theorem mO_130 : mC_130.all (ck_c lw_tbl (mi_ev []) mi_Gs mi_mq mi_fr mi_lo 130 "SafeCodeModel") = true := by decide +kernel
theorem mQ_130 : ck_q lw_tbl mi_cl mG_130 3 1 0 [265, 2715] = true := by decide +kernel
set_option maxRecDepth 100000 in
theorem mW_130 : Cond.code ⟨"SafeCodeModel", "hasNext", "(I)Z"⟩ prog_14_method_55_code 1 (some .boolean) ∈ lw_tbl.filter goodWord := mI_tables_1_11 (List.mem_of_getElem? (i := 69) rfl) rfl
theorem mD_131_0 : ck_t prog_14_method_58_code mT_131_0 = true := by decide +kernel
theorem mD_131_1 : ck_t prog_14_method_58_code mT_131_1 = true := by decide +kernel
theorem mD_131_2 : ck_t prog_14_method_58_code mT_131_2 = true := by decide +kernel
theorem mD_131_3 : ck_t prog_14_method_58_code mT_131_3 = true := by decide +kernel
theorem mD_131_4 : ck_t prog_14_method_58_code mT_131_4 = true := by decide +kernel
theorem mD_131 : ck_t prog_14_method_58_code mT_131 = true := ck_t_app mD_131_0 (ck_t_app mD_131_1 (ck_t_app mD_131_2 (ck_t_app mD_131_3 mD_131_4)))
theorem mO_131 : mC_131.all (ck_c lw_tbl (mi_ev []) mi_Gs mi_mq mi_fr mi_lo 131 "SafeCodeModel") = true := by decide +kernel
theorem mQ_131 : ck_q lw_tbl mi_cl mG_131 0 2 13 [265, 2702, 173] = true := by decide +kernel
set_option maxRecDepth 100000 in
theorem mW_131 : Cond.code ⟨"SafeCodeModel", "heights", "(LSafeCodeModel$Program;I)Z"⟩ prog_14_method_58_code 7 (some .boolean) ∈ lw_tbl.filter goodWord := mI_tables_1_11 (List.mem_of_getElem? (i := 56) rfl) rfl
theorem mD_132_0 : ck_t prog_14_method_132_code mT_132_0 = true := by decide +kernel
theorem mD_132 : ck_t prog_14_method_132_code mT_132 = true := mD_132_0
theorem mO_132 : mC_132.all (ck_c lw_tbl (mi_ev []) mi_Gs mi_mq mi_fr mi_lo 132 "SafeCodeModel") = true := by decide +kernel
theorem mQ_132 : ck_q lw_tbl mi_cl mG_132 0 2 13 [265, 3006, 3007] = true := by decide +kernel
set_option maxRecDepth 100000 in
theorem mW_132 : Cond.code ⟨"SafeCodeModel", "high", "(II)I"⟩ prog_14_method_132_code 3 (some .int) ∈ lw_tbl.filter goodWord := mI_tables_1_12 (List.mem_of_getElem? (i := 121) rfl) rfl
