/-! Checks of methods. -/
theorem mD_226_0 : ck_t prog_14_method_124_code mT_226_0 = true := by decide +kernel
theorem mD_226 : ck_t prog_14_method_124_code mT_226 = true := mD_226_0
theorem mO_226 : mC_226.all (ck_c lw_tbl (mi_ev []) mi_Gs mi_mq mi_fr mi_lo 226 "SafeCodeModel") = true := by decide +kernel
theorem mQ_226 : ck_q lw_tbl mi_cl mG_226 0 1 13 [265, 2973, 2974] = true := by decide +kernel
set_option maxRecDepth 100000 in
theorem mW_226 : Cond.code ⟨"SafeCodeModel", "size", "(I)I"⟩ prog_14_method_124_code 2 (some .int) ∈ lw_tbl.filter goodWord := mI_tables_1_12 (List.mem_of_getElem? (i := 88) rfl) rfl
theorem mD_227_0 : ck_t prog_14_method_129_code mT_227_0 = true := by decide +kernel
theorem mD_227 : ck_t prog_14_method_129_code mT_227 = true := mD_227_0
theorem mO_227 : mC_227.all (ck_c lw_tbl (mi_ev []) mi_Gs mi_mq mi_fr mi_lo 227 "SafeCodeModel") = true := by decide +kernel
theorem mQ_227 : ck_q lw_tbl mi_cl mG_227 0 2 13 [265, 2998, 226] = true := by decide +kernel
set_option maxRecDepth 100000 in
theorem mW_227 : Cond.code ⟨"SafeCodeModel", "slot", "(II)I"⟩ prog_14_method_129_code 3 (some .int) ∈ lw_tbl.filter goodWord := mI_tables_1_12 (List.mem_of_getElem? (i := 112) rfl) rfl
theorem mD_228_0 : ck_t prog_14_method_154_code mT_228_0 = true := by decide +kernel
theorem mD_228_1 : ck_t prog_14_method_154_code mT_228_1 = true := by decide +kernel
theorem mD_228_2 : ck_t prog_14_method_154_code mT_228_2 = true := by decide +kernel
theorem mD_228_3 : ck_t prog_14_method_154_code mT_228_3 = true := by decide +kernel
theorem mD_228_4 : ck_t prog_14_method_154_code mT_228_4 = true := by decide +kernel
theorem mD_228 : ck_t prog_14_method_154_code mT_228 = true := ck_t_app mD_228_0 (ck_t_app mD_228_1 (ck_t_app mD_228_2 (ck_t_app mD_228_3 mD_228_4)))
theorem mO_228 : mC_228.all (ck_c lw_tbl (mi_ev []) mi_Gs mi_mq mi_fr mi_lo 228 "SafeCodeModel") = true := by decide +kernel
theorem mQ_228 : ck_q lw_tbl mi_cl mG_228 0 1 13 [265, 3066, 233] = true := by decide +kernel
set_option maxRecDepth 100000 in
theorem mW_228 : Cond.code ⟨"SafeCodeModel", "step", "(I)V"⟩ prog_14_method_154_code 13 (none) ∈ lw_tbl.filter goodWord := mI_tables_1_12 (List.mem_of_getElem? (i := 180) rfl) rfl
theorem mD_229_0 : ck_t prog_14_method_161_code mT_229_0 = true := by decide +kernel
theorem mD_229 : ck_t prog_14_method_161_code mT_229 = true := mD_229_0
theorem mO_229 : mC_229.all (ck_c lw_tbl (mi_ev []) mi_Gs mi_mq mi_fr mi_lo 229 "SafeCodeModel") = true := by decide +kernel
theorem mQ_229 : ck_q lw_tbl mi_cl mG_229 0 0 13 [265, 3121, 3122] = true := by decide +kernel
set_option maxRecDepth 100000 in
theorem mW_229 : Cond.code ⟨"SafeCodeModel", "steps", "()I"⟩ prog_14_method_161_code 1 (some .int) ∈ lw_tbl.filter goodWord := mI_tables_1_12 (List.mem_of_getElem? (i := 236) rfl) rfl
theorem mD_230_0 : ck_t prog_14_method_166_code mT_230_0 = true := by decide +kernel
theorem mD_230 : ck_t prog_14_method_166_code mT_230 = true := mD_230_0
theorem mO_230 : mC_230.all (ck_c lw_tbl (mi_ev []) mi_Gs mi_mq mi_fr mi_lo 230 "SafeCodeModel") = true := by decide +kernel
theorem mQ_230 : ck_q lw_tbl mi_cl mG_230 0 0 13 [265, 3141, 3142] = true := by decide +kernel
set_option maxRecDepth 100000 in
theorem mW_230 : Cond.code ⟨"SafeCodeModel", "strays", "()I"⟩ prog_14_method_166_code 1 (some .int) ∈ lw_tbl.filter goodWord := mI_tables_1_13 (List.mem_of_getElem? (i := 16) rfl) rfl
