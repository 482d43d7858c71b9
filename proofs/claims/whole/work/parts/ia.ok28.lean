/-! Checks of methods. -/
theorem mD_154_0 : ck_t prog_14_method_17_code mT_154_0 = true := by decide +kernel
theorem mD_154 : ck_t prog_14_method_17_code mT_154 = true := mD_154_0
theorem mO_154 : mC_154.all (ck_c lw_tbl (mi_ev []) mi_Gs mi_mq mi_fr mi_lo 154 "SafeCodeModel") = true := by decide +kernel
theorem mQ_154 : ck_q lw_tbl mi_cl mG_154 0 1 13 [265, 2536, 136] = true := by decide +kernel
set_option maxRecDepth 100000 in
theorem mW_154 : Cond.code ⟨"SafeCodeModel", "isNumber", "(I)Z"⟩ prog_14_method_17_code 5 (some .boolean) ∈ lw_tbl.filter goodWord := mI_tables_1_10 (List.mem_of_getElem? (i := 130) rfl) rfl
theorem mD_155_0 : ck_t prog_14_method_143_code mT_155_0 = true := by decide +kernel
theorem mD_155 : ck_t prog_14_method_143_code mT_155 = true := mD_155_0
theorem mO_155 : mC_155.all (ck_c lw_tbl (mi_ev []) mi_Gs mi_mq mi_fr mi_lo 155 "SafeCodeModel") = true := by decide +kernel
theorem mQ_155 : ck_q lw_tbl mi_cl mG_155 3 1 0 [265, 3062] = true := by decide +kernel
set_option maxRecDepth 100000 in
theorem mW_155 : Cond.code ⟨"SafeCodeModel", "isObject", "(J)Z"⟩ prog_14_method_143_code 2 (some .boolean) ∈ lw_tbl.filter goodWord := mI_tables_1_12 (List.mem_of_getElem? (i := 176) rfl) rfl
theorem mD_156_0 : ck_t prog_14_method_20_code mT_156_0 = true := by decide +kernel
theorem mD_156 : ck_t prog_14_method_20_code mT_156 = true := mD_156_0
theorem mO_156 : mC_156.all (ck_c lw_tbl (mi_ev []) mi_Gs mi_mq mi_fr mi_lo 156 "SafeCodeModel") = true := by decide +kernel
theorem mQ_156 : ck_q lw_tbl mi_cl mG_156 0 0 13 [265, 2488, 127] = true := by decide +kernel
set_option maxRecDepth 100000 in
theorem mW_156 : Cond.code ⟨"SafeCodeModel", "isProgram", "()Z"⟩ prog_14_method_20_code 1 (some .boolean) ∈ lw_tbl.filter goodWord := mI_tables_1_10 (List.mem_of_getElem? (i := 82) rfl) rfl
theorem mD_157_0 : ck_t prog_14_method_16_code mT_157_0 = true := by decide +kernel
theorem mD_157 : ck_t prog_14_method_16_code mT_157 = true := mD_157_0
theorem mO_157 : mC_157.all (ck_c lw_tbl (mi_ev []) mi_Gs mi_mq mi_fr mi_lo 157 "SafeCodeModel") = true := by decide +kernel
theorem mQ_157 : ck_q lw_tbl mi_cl mG_157 0 1 13 [265, 2569, 142] = true := by decide +kernel
set_option maxRecDepth 100000 in
theorem mW_157 : Cond.code ⟨"SafeCodeModel", "isReference", "(I)Z"⟩ prog_14_method_16_code 3 (some .boolean) ∈ lw_tbl.filter goodWord := mI_tables_1_10 (List.mem_of_getElem? (i := 163) rfl) rfl
theorem mD_158_0 : ck_t prog_14_method_63_code mT_158_0 = true := by decide +kernel
theorem mD_158 : ck_t prog_14_method_63_code mT_158 = true := mD_158_0
theorem mO_158 : mC_158.all (ck_c lw_tbl (mi_ev []) mi_Gs mi_mq mi_fr mi_lo 158 "SafeCodeModel") = true := by decide +kernel
theorem mQ_158 : ck_q lw_tbl mi_cl mG_158 3 1 0 [265, 2768] = true := by decide +kernel
set_option maxRecDepth 100000 in
theorem mW_158 : Cond.code ⟨"SafeCodeModel", "isReferenceType", "(I)Z"⟩ prog_14_method_63_code 1 (some .boolean) ∈ lw_tbl.filter goodWord := mI_tables_1_11 (List.mem_of_getElem? (i := 122) rfl) rfl
theorem mD_159_0 : ck_t prog_14_method_7_code mT_159_0 = true := by decide +kernel
theorem mD_159 : ck_t prog_14_method_7_code mT_159 = true := mD_159_0
theorem mO_159 : mC_159.all (ck_c lw_tbl (mi_ev []) mi_Gs mi_mq mi_fr mi_lo 159 "SafeCodeModel") = true := by decide +kernel
theorem mQ_159 : ck_q lw_tbl mi_cl mG_159 0 4 13 [265, 2594, 148] = true := by decide +kernel
set_option maxRecDepth 100000 in
theorem mW_159 : Cond.code ⟨"SafeCodeModel", "isSame", "(IIII)Z"⟩ prog_14_method_7_code 6 (some .boolean) ∈ lw_tbl.filter goodWord := mI_tables_1_10 (List.mem_of_getElem? (i := 188) rfl) rfl
