/-! Checks of methods. -/
theorem mD_143_0 : ck_t prog_14_method_64_code mT_143_0 = true := by decide +kernel
theorem mD_143 : ck_t prog_14_method_64_code mT_143 = true := mD_143_0
theorem mO_143 : mC_143.all (ck_c lw_tbl (mi_ev []) mi_Gs mi_mq mi_fr mi_lo 143 "SafeCodeModel") = true := by decide +kernel
theorem mQ_143 : ck_q lw_tbl mi_cl mG_143 3 3 0 [265, 2747] = true := by decide +kernel
set_option maxRecDepth 100000 in
theorem mW_143 : Cond.code ⟨"SafeCodeModel", "isBelow", "(LSafeCodeModel$Program;II)Z"⟩ prog_14_method_64_code 3 (some .boolean) ∈ lw_tbl.filter goodWord := mI_tables_1_11 (List.mem_of_getElem? (i := 101) rfl) rfl
theorem mD_144_0 : ck_t prog_14_method_61_code mT_144_0 = true := by decide +kernel
theorem mD_144 : ck_t prog_14_method_61_code mT_144 = true := mD_144_0
theorem mO_144 : mC_144.all (ck_c lw_tbl (mi_ev []) mi_Gs mi_mq mi_fr mi_lo 144 "SafeCodeModel") = true := by decide +kernel
theorem mQ_144 : ck_q lw_tbl mi_cl mG_144 3 1 0 [265, 2750] = true := by decide +kernel
set_option maxRecDepth 100000 in
theorem mW_144 : Cond.code ⟨"SafeCodeModel", "isClass", "(I)Z"⟩ prog_14_method_61_code 1 (some .boolean) ∈ lw_tbl.filter goodWord := mI_tables_1_11 (List.mem_of_getElem? (i := 104) rfl) rfl
theorem mD_145_0 : ck_t prog_14_method_12_code mT_145_0 = true := by decide +kernel
theorem mD_145 : ck_t prog_14_method_12_code mT_145 = true := mD_145_0
theorem mO_145 : mC_145.all (ck_c lw_tbl (mi_ev []) mi_Gs mi_mq mi_fr mi_lo 145 "SafeCodeModel") = true := by decide +kernel
theorem mQ_145 : ck_q lw_tbl mi_cl mG_145 0 1 13 [265, 2503, 130] = true := by decide +kernel
set_option maxRecDepth 100000 in
theorem mW_145 : Cond.code ⟨"SafeCodeModel", "isClassName", "(I)Z"⟩ prog_14_method_12_code 2 (some .boolean) ∈ lw_tbl.filter goodWord := mI_tables_1_10 (List.mem_of_getElem? (i := 97) rfl) rfl
theorem mD_146_0 : ck_t prog_14_method_125_code mT_146_0 = true := by decide +kernel
theorem mD_146 : ck_t prog_14_method_125_code mT_146 = true := mD_146_0
theorem mO_146 : mC_146.all (ck_c lw_tbl (mi_ev []) mi_Gs mi_mq mi_fr mi_lo 146 "SafeCodeModel") = true := by decide +kernel
theorem mQ_146 : ck_q lw_tbl mi_cl mG_146 0 1 13 [265, 2982, 225] = true := by decide +kernel
set_option maxRecDepth 100000 in
theorem mW_146 : Cond.code ⟨"SafeCodeModel", "isCode", "(I)Z"⟩ prog_14_method_125_code 2 (some .boolean) ∈ lw_tbl.filter goodWord := mI_tables_1_12 (List.mem_of_getElem? (i := 96) rfl) rfl
theorem mD_147_0 : ck_t prog_14_method_74_code mT_147_0 = true := by decide +kernel
theorem mD_147 : ck_t prog_14_method_74_code mT_147 = true := mD_147_0
theorem mO_147 : mC_147.all (ck_c lw_tbl (mi_ev []) mi_Gs mi_mq mi_fr mi_lo 147 "SafeCodeModel") = true := by decide +kernel
theorem mQ_147 : ck_q lw_tbl mi_cl mG_147 3 3 0 [265, 2774] = true := by decide +kernel
set_option maxRecDepth 100000 in
theorem mW_147 : Cond.code ⟨"SafeCodeModel", "isElement", "(LSafeCodeModel$Program;II)Z"⟩ prog_14_method_74_code 3 (some .boolean) ∈ lw_tbl.filter goodWord := mI_tables_1_11 (List.mem_of_getElem? (i := 128) rfl) rfl
theorem mD_148_0 : ck_t prog_14_method_147_code mT_148_0 = true := by decide +kernel
theorem mD_148_1 : ck_t prog_14_method_147_code mT_148_1 = true := by decide +kernel
theorem mD_148_2 : ck_t prog_14_method_147_code mT_148_2 = true := by decide +kernel
theorem mD_148_3 : ck_t prog_14_method_147_code mT_148_3 = true := by decide +kernel
theorem mD_148_4 : ck_t prog_14_method_147_code mT_148_4 = true := by decide +kernel
theorem mD_148 : ck_t prog_14_method_147_code mT_148 = true := ck_t_app mD_148_0 (ck_t_app mD_148_1 (ck_t_app mD_148_2 (ck_t_app mD_148_3 mD_148_4)))
theorem mO_148 : mC_148.all (ck_c lw_tbl (mi_ev []) mi_Gs mi_mq mi_fr mi_lo 148 "SafeCodeModel") = true := by decide +kernel
theorem mQ_148 : ck_q lw_tbl mi_cl mG_148 0 2 13 [265, 3044, 230] = true := by decide +kernel
set_option maxRecDepth 100000 in
theorem mW_148 : Cond.code ⟨"SafeCodeModel", "isHeld", "(IJ)Z"⟩ prog_14_method_147_code 9 (some .boolean) ∈ lw_tbl.filter goodWord := mI_tables_1_12 (List.mem_of_getElem? (i := 158) rfl) rfl
