/-! Checks of methods. -/
theorem mD_210_0 : ck_t prog_14_method_92_code mT_210_0 = true := by decide +kernel
theorem mD_210_1 : ck_t prog_14_method_92_code mT_210_1 = true := by decide +kernel
theorem mD_210_2 : ck_t prog_14_method_92_code mT_210_2 = true := by decide +kernel
theorem mD_210_3 : ck_t prog_14_method_92_code mT_210_3 = true := by decide +kernel
theorem mD_210 : ck_t prog_14_method_92_code mT_210 = true := ck_t_app mD_210_0 (ck_t_app mD_210_1 (ck_t_app mD_210_2 mD_210_3))
theorem mO_210 : mC_210.all (ck_c lw_tbl (mi_ev []) mi_Gs mi_mq mi_fr mi_lo 210 "SafeCodeModel") = true := by decide +kernel
theorem mQ_210 : ck_q lw_tbl mi_cl mG_210 0 1 13 [265, 2782, 184] = true := by decide +kernel
set_option maxRecDepth 100000 in
theorem mW_210 : Cond.code ⟨"SafeCodeModel", "prove", "(LSafeCodeModel$Program;)V"⟩ prog_14_method_92_code 4 (none) ∈ lw_tbl.filter goodWord := mI_tables_1_11 (List.mem_of_getElem? (i := 136) rfl) rfl
theorem mD_211_0 : ck_t prog_14_method_141_code mT_211_0 = true := by decide +kernel
theorem mD_211 : ck_t prog_14_method_141_code mT_211 = true := mD_211_0
theorem mO_211 : mC_211.all (ck_c lw_tbl (mi_ev []) mi_Gs mi_mq mi_fr mi_lo 211 "SafeCodeModel") = true := by decide +kernel
theorem mQ_211 : ck_q lw_tbl mi_cl mG_211 0 1 13 [265, 3070, 234] = true := by decide +kernel
set_option maxRecDepth 100000 in
theorem mW_211 : Cond.code ⟨"SafeCodeModel", "push", "(J)V"⟩ prog_14_method_141_code 3 (none) ∈ lw_tbl.filter goodWord := mI_tables_1_12 (List.mem_of_getElem? (i := 184) rfl) rfl
theorem mD_212_0 : ck_t prog_14_method_77_code mT_212_0 = true := by decide +kernel
theorem mD_212 : ck_t prog_14_method_77_code mT_212 = true := mD_212_0
theorem mO_212 : mC_212.all (ck_c lw_tbl (mi_ev []) mi_Gs mi_mq mi_fr mi_lo 212 "SafeCodeModel") = true := by decide +kernel
theorem mQ_212 : ck_q lw_tbl mi_cl mG_212 0 2 13 [265, 2876, 203] = true := by decide +kernel
set_option maxRecDepth 100000 in
theorem mW_212 : Cond.code ⟨"SafeCodeModel", "put", "(II)V"⟩ prog_14_method_77_code 3 (none) ∈ lw_tbl.filter goodWord := mI_tables_1_11 (List.mem_of_getElem? (i := 230) rfl) rfl
theorem mD_213_0 : ck_t prog_14_method_109_code mT_213_0 = true := by decide +kernel
theorem mD_213_1 : ck_t prog_14_method_109_code mT_213_1 = true := by decide +kernel
theorem mD_213_2 : ck_t prog_14_method_109_code mT_213_2 = true := by decide +kernel
theorem mD_213 : ck_t prog_14_method_109_code mT_213 = true := ck_t_app mD_213_0 (ck_t_app mD_213_1 mD_213_2)
theorem mO_213 : mC_213.all (ck_c lw_tbl (mi_ev []) mi_Gs mi_mq mi_fr mi_lo 213 "SafeCodeModel") = true := by decide +kernel
theorem mQ_213 : ck_q lw_tbl mi_cl mG_213 0 5 13 [265, 2956, 222] = true := by decide +kernel
set_option maxRecDepth 100000 in
theorem mW_213 : Cond.code ⟨"SafeCodeModel", "quotient", "(LSafeCodeModel$Program;JJJJ)Z"⟩ prog_14_method_109_code 22 (some .boolean) ∈ lw_tbl.filter goodWord := mI_tables_1_12 (List.mem_of_getElem? (i := 70) rfl) rfl
theorem mD_214_0 : ck_t prog_14_method_151_code mT_214_0 = true := by decide +kernel
theorem mD_214 : ck_t prog_14_method_151_code mT_214 = true := mD_214_0
theorem mO_214 : mC_214.all (ck_c lw_tbl (mi_ev []) mi_Gs mi_mq mi_fr mi_lo 214 "SafeCodeModel") = true := by decide +kernel
theorem mQ_214 : ck_q lw_tbl mi_cl mG_214 0 2 13 [265, 3082, 237] = true := by decide +kernel
set_option maxRecDepth 100000 in
theorem mW_214 : Cond.code ⟨"SafeCodeModel", "raise", "(II)V"⟩ prog_14_method_151_code 5 (none) ∈ lw_tbl.filter goodWord := mI_tables_1_12 (List.mem_of_getElem? (i := 196) rfl) rfl
