/-! Checks of methods. -/
theorem mD_160_0 : ck_t prog_14_method_38_code mT_160_0 = true := by decide +kernel
theorem mD_160 : ck_t prog_14_method_38_code mT_160 = true := mD_160_0
theorem mO_160 : mC_160.all (ck_c lw_tbl (mi_ev []) mi_Gs mi_mq mi_fr mi_lo 160 "SafeCodeModel") = true := by decide +kernel
theorem mQ_160 : ck_q lw_tbl mi_cl mG_160 0 2 13 [265, 2633, 157] = true := by decide +kernel
set_option maxRecDepth 100000 in
theorem mW_160 : Cond.code ⟨"SafeCodeModel", "isSameRow", "(II)Z"⟩ prog_14_method_38_code 4 (some .boolean) ∈ lw_tbl.filter goodWord := mI_tables_1_10 (List.mem_of_getElem? (i := 227) rfl) rfl
theorem mD_161_0 : ck_t prog_14_method_8_code mT_161_0 = true := by decide +kernel
theorem mD_161 : ck_t prog_14_method_8_code mT_161 = true := mD_161_0
theorem mO_161 : mC_161.all (ck_c lw_tbl (mi_ev []) mi_Gs mi_mq mi_fr mi_lo 161 "SafeCodeModel") = true := by decide +kernel
theorem mQ_161 : ck_q lw_tbl mi_cl mG_161 0 2 13 [265, 2637, 158] = true := by decide +kernel
set_option maxRecDepth 100000 in
theorem mW_161 : Cond.code ⟨"SafeCodeModel", "isSameToken", "(II)Z"⟩ prog_14_method_8_code 3 (some .boolean) ∈ lw_tbl.filter goodWord := mI_tables_1_10 (List.mem_of_getElem? (i := 231) rfl) rfl
theorem mD_162_0 : ck_t prog_14_method_11_code mT_162_0 = true := by decide +kernel
theorem mD_162 : ck_t prog_14_method_11_code mT_162 = true := mD_162_0
theorem mO_162 : mC_162.all (ck_c lw_tbl (mi_ev []) mi_Gs mi_mq mi_fr mi_lo 162 "SafeCodeModel") = true := by decide +kernel
theorem mQ_162 : ck_q lw_tbl mi_cl mG_162 0 1 13 [265, 2519, 133] = true := by decide +kernel
set_option maxRecDepth 100000 in
theorem mW_162 : Cond.code ⟨"SafeCodeModel", "isSmallName", "(I)Z"⟩ prog_14_method_11_code 2 (some .boolean) ∈ lw_tbl.filter goodWord := mI_tables_1_10 (List.mem_of_getElem? (i := 113) rfl) rfl
theorem mD_163_0 : ck_t prog_14_method_14_code mT_163_0 = true := by decide +kernel
theorem mD_163 : ck_t prog_14_method_14_code mT_163 = true := mD_163_0
theorem mO_163 : mC_163.all (ck_c lw_tbl (mi_ev []) mi_Gs mi_mq mi_fr mi_lo 163 "SafeCodeModel") = true := by decide +kernel
theorem mQ_163 : ck_q lw_tbl mi_cl mG_163 0 1 13 [265, 2523, 134] = true := by decide +kernel
set_option maxRecDepth 100000 in
theorem mW_163 : Cond.code ⟨"SafeCodeModel", "isType", "(I)Z"⟩ prog_14_method_14_code 4 (some .boolean) ∈ lw_tbl.filter goodWord := mI_tables_1_10 (List.mem_of_getElem? (i := 117) rfl) rfl
theorem mD_164_0 : ck_t prog_14_method_89_code mT_164_0 = true := by decide +kernel
theorem mD_164 : ck_t prog_14_method_89_code mT_164 = true := mD_164_0
theorem mO_164 : mC_164.all (ck_c lw_tbl (mi_ev []) mi_Gs mi_mq mi_fr mi_lo 164 "SafeCodeModel") = true := by decide +kernel
theorem mQ_164 : ck_q lw_tbl mi_cl mG_164 0 3 13 [265, 2888, 206] = true := by decide +kernel
set_option maxRecDepth 100000 in
theorem mW_164 : Cond.code ⟨"SafeCodeModel", "joinNothing", "(LSafeCodeModel$Program;II)V"⟩ prog_14_method_89_code 4 (none) ∈ lw_tbl.filter goodWord := mI_tables_1_12 (List.mem_of_getElem? (i := 2) rfl) rfl
theorem mD_165_0 : ck_t prog_14_method_86_code mT_165_0 = true := by decide +kernel
theorem mD_165 : ck_t prog_14_method_86_code mT_165 = true := mD_165_0
theorem mO_165 : mC_165.all (ck_c lw_tbl (mi_ev []) mi_Gs mi_mq mi_fr mi_lo 165 "SafeCodeModel") = true := by decide +kernel
theorem mQ_165 : ck_q lw_tbl mi_cl mG_165 0 4 13 [265, 2892, 207] = true := by decide +kernel
set_option maxRecDepth 100000 in
theorem mW_165 : Cond.code ⟨"SafeCodeModel", "joinRange", "(LSafeCodeModel$Program;III)V"⟩ prog_14_method_86_code 6 (none) ∈ lw_tbl.filter goodWord := mI_tables_1_12 (List.mem_of_getElem? (i := 6) rfl) rfl
