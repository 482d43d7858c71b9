/-! Checks of methods. -/
theorem mD_215_0 : ck_t prog_14_method_110_code mT_215_0 = true := by decide +kernel
theorem mD_215 : ck_t prog_14_method_110_code mT_215 = true := mD_215_0
theorem mO_215 : mC_215.all (ck_c lw_tbl (mi_ev []) mi_Gs mi_mq mi_fr mi_lo 215 "SafeCodeModel") = true := by decide +kernel
theorem mQ_215 : ck_q lw_tbl mi_cl mG_215 0 2 13 [265, 2960, 223] = true := by decide +kernel
set_option maxRecDepth 100000 in
theorem mW_215 : Cond.code ⟨"SafeCodeModel", "raisedByZero", "(JJ)V"⟩ prog_14_method_110_code 5 (none) ∈ lw_tbl.filter goodWord := mI_tables_1_12 (List.mem_of_getElem? (i := 74) rfl) rfl
theorem mD_216_0 : ck_t prog_14_method_83_code mT_216_0 = true := by decide +kernel
theorem mD_216 : ck_t prog_14_method_83_code mT_216 = true := mD_216_0
theorem mO_216 : mC_216.all (ck_c lw_tbl (mi_ev []) mi_Gs mi_mq mi_fr mi_lo 216 "SafeCodeModel") = true := by decide +kernel
theorem mQ_216 : ck_q lw_tbl mi_cl mG_216 0 4 13 [265, 2866, 201] = true := by decide +kernel
set_option maxRecDepth 100000 in
theorem mW_216 : Cond.code ⟨"SafeCodeModel", "range", "(LSafeCodeModel$Program;IJJ)V"⟩ prog_14_method_83_code 8 (none) ∈ lw_tbl.filter goodWord := mI_tables_1_11 (List.mem_of_getElem? (i := 220) rfl) rfl
theorem mD_217_0 : ck_t prog_14_method_103_code mT_217_0 = true := by decide +kernel
theorem mD_217 : ck_t prog_14_method_103_code mT_217 = true := mD_217_0
theorem mO_217 : mC_217.all (ck_c lw_tbl (mi_ev []) mi_Gs mi_mq mi_fr mi_lo 217 "SafeCodeModel") = true := by decide +kernel
theorem mQ_217 : ck_q lw_tbl mi_cl mG_217 0 1 13 [265, 2847, 197] = true := by decide +kernel
set_option maxRecDepth 100000 in
theorem mW_217 : Cond.code ⟨"SafeCodeModel", "rangeToLocal", "(I)Z"⟩ prog_14_method_103_code 3 (some .boolean) ∈ lw_tbl.filter goodWord := mI_tables_1_11 (List.mem_of_getElem? (i := 201) rfl) rfl
theorem mD_218_0 : ck_t prog_14_method_155_code mT_218_0 = true := by decide +kernel
theorem mD_218_1 : ck_t prog_14_method_155_code mT_218_1 = true := by decide +kernel
theorem mD_218_2 : ck_t prog_14_method_155_code mT_218_2 = true := by decide +kernel
theorem mD_218 : ck_t prog_14_method_155_code mT_218 = true := ck_t_app mD_218_0 (ck_t_app mD_218_1 mD_218_2)
theorem mO_218 : mC_218.all (ck_c lw_tbl (mi_ev []) mi_Gs mi_mq mi_fr mi_lo 218 "SafeCodeModel") = true := by decide +kernel
theorem mQ_218 : ck_q lw_tbl mi_cl mG_218 0 2 13 [265, 3078, 236] = true := by decide +kernel
set_option maxRecDepth 100000 in
theorem mW_218 : Cond.code ⟨"SafeCodeModel", "reckon", "(II)V"⟩ prog_14_method_155_code 5 (none) ∈ lw_tbl.filter goodWord := mI_tables_1_12 (List.mem_of_getElem? (i := 192) rfl) rfl
theorem mD_219_0 : ck_t prog_14_method_49_code mT_219_0 = true := by decide +kernel
theorem mD_219 : ck_t prog_14_method_49_code mT_219 = true := mD_219_0
theorem mO_219 : mC_219.all (ck_c lw_tbl (mi_ev []) mi_Gs mi_mq mi_fr mi_lo 219 "SafeCodeModel") = true := by decide +kernel
theorem mQ_219 : ck_q lw_tbl mi_cl mG_219 0 4 13 [265, 2690, 171] = true := by decide +kernel
set_option maxRecDepth 100000 in
theorem mW_219 : Cond.code ⟨"SafeCodeModel", "reference", "(LSafeCodeModel$Program;III)Z"⟩ prog_14_method_49_code 8 (some .boolean) ∈ lw_tbl.filter goodWord := mI_tables_1_11 (List.mem_of_getElem? (i := 44) rfl) rfl
theorem mD_220_0 : ck_t prog_14_method_111_code mT_220_0 = true := by decide +kernel
theorem mD_220 : ck_t prog_14_method_111_code mT_220 = true := mD_220_0
theorem mO_220 : mC_220.all (ck_c lw_tbl (mi_ev []) mi_Gs mi_mq mi_fr mi_lo 220 "SafeCodeModel") = true := by decide +kernel
theorem mQ_220 : ck_q lw_tbl mi_cl mG_220 0 5 13 [265, 2964, 224] = true := by decide +kernel
set_option maxRecDepth 100000 in
theorem mW_220 : Cond.code ⟨"SafeCodeModel", "rest", "(LSafeCodeModel$Program;JJJJ)Z"⟩ prog_14_method_111_code 12 (some .boolean) ∈ lw_tbl.filter goodWord := mI_tables_1_12 (List.mem_of_getElem? (i := 78) rfl) rfl
