/-! Checks of methods. -/
theorem mD_204_0 : ck_t prog_14_method_99_code mT_204_0 = true := by decide +kernel
theorem mD_204_1 : ck_t prog_14_method_99_code mT_204_1 = true := by decide +kernel
theorem mD_204_2 : ck_t prog_14_method_99_code mT_204_2 = true := by decide +kernel
theorem mD_204 : ck_t prog_14_method_99_code mT_204 = true := ck_t_app mD_204_0 (ck_t_app mD_204_1 mD_204_2)
theorem mO_204 : mC_204.all (ck_c lw_tbl (mi_ev []) mi_Gs mi_mq mi_fr mi_lo 204 "SafeCodeModel") = true := by decide +kernel
theorem mQ_204 : ck_q lw_tbl mi_cl mG_204 0 4 13 [265, 2823, 193] = true := by decide +kernel
set_option maxRecDepth 100000 in
theorem mW_204 : Cond.code ⟨"SafeCodeModel", "ordered", "(LSafeCodeModel$Program;III)Z"⟩ prog_14_method_99_code 9 (some .boolean) ∈ lw_tbl.filter goodWord := mI_tables_1_11 (List.mem_of_getElem? (i := 177) rfl) rfl
theorem mD_205_0 : ck_t prog_14_method_165_code mT_205_0 = true := by decide +kernel
theorem mD_205 : ck_t prog_14_method_165_code mT_205 = true := mD_205_0
theorem mO_205 : mC_205.all (ck_c lw_tbl (mi_ev []) mi_Gs mi_mq mi_fr mi_lo 205 "SafeCodeModel") = true := by decide +kernel
theorem mQ_205 : ck_q lw_tbl mi_cl mG_205 0 1 13 [265, 3137, 3138] = true := by decide +kernel
set_option maxRecDepth 100000 in
theorem mW_205 : Cond.code ⟨"SafeCodeModel", "out", "(I)I"⟩ prog_14_method_165_code 2 (some .int) ∈ lw_tbl.filter goodWord := mI_tables_1_13 (List.mem_of_getElem? (i := 12) rfl) rfl
theorem mD_206_0 : ck_t prog_14_method_162_code mT_206_0 = true := by decide +kernel
theorem mD_206 : ck_t prog_14_method_162_code mT_206 = true := mD_206_0
theorem mO_206 : mC_206.all (ck_c lw_tbl (mi_ev []) mi_Gs mi_mq mi_fr mi_lo 206 "SafeCodeModel") = true := by decide +kernel
theorem mQ_206 : ck_q lw_tbl mi_cl mG_206 0 0 13 [265, 3125, 3126] = true := by decide +kernel
set_option maxRecDepth 100000 in
theorem mW_206 : Cond.code ⟨"SafeCodeModel", "place", "()I"⟩ prog_14_method_162_code 1 (some .int) ∈ lw_tbl.filter goodWord := mI_tables_1_13 (List.mem_of_getElem? (i := 0) rfl) rfl
theorem mD_207_0 : ck_t prog_14_method_15_code mT_207_0 = true := by decide +kernel
theorem mD_207 : ck_t prog_14_method_15_code mT_207 = true := mD_207_0
theorem mO_207 : mC_207.all (ck_c lw_tbl (mi_ev []) mi_Gs mi_mq mi_fr mi_lo 207 "SafeCodeModel") = true := by decide +kernel
theorem mQ_207 : ck_q lw_tbl mi_cl mG_207 0 1 13 [265, 2573, 143] = true := by decide +kernel
set_option maxRecDepth 100000 in
theorem mW_207 : Cond.code ⟨"SafeCodeModel", "point", "(I)I"⟩ prog_14_method_15_code 3 (some .int) ∈ lw_tbl.filter goodWord := mI_tables_1_10 (List.mem_of_getElem? (i := 167) rfl) rfl
theorem mD_208_0 : ck_t prog_14_method_140_code mT_208_0 = true := by decide +kernel
theorem mD_208 : ck_t prog_14_method_140_code mT_208 = true := mD_208_0
theorem mO_208 : mC_208.all (ck_c lw_tbl (mi_ev []) mi_Gs mi_mq mi_fr mi_lo 208 "SafeCodeModel") = true := by decide +kernel
theorem mQ_208 : ck_q lw_tbl mi_cl mG_208 0 0 13 [265, 3074, 235] = true := by decide +kernel
set_option maxRecDepth 100000 in
theorem mW_208 : Cond.code ⟨"SafeCodeModel", "pop", "()J"⟩ prog_14_method_140_code 1 (some .long) ∈ lw_tbl.filter goodWord := mI_tables_1_12 (List.mem_of_getElem? (i := 188) rfl) rfl
theorem mD_209_0 : ck_t prog_14_method_108_code mT_209_0 = true := by decide +kernel
theorem mD_209 : ck_t prog_14_method_108_code mT_209 = true := mD_209_0
theorem mO_209 : mC_209.all (ck_c lw_tbl (mi_ev []) mi_Gs mi_mq mi_fr mi_lo 209 "SafeCodeModel") = true := by decide +kernel
theorem mQ_209 : ck_q lw_tbl mi_cl mG_209 0 5 13 [265, 2952, 221] = true := by decide +kernel
set_option maxRecDepth 100000 in
theorem mW_209 : Cond.code ⟨"SafeCodeModel", "product", "(LSafeCodeModel$Program;JJJJ)V"⟩ prog_14_method_108_code 14 (none) ∈ lw_tbl.filter goodWord := mI_tables_1_12 (List.mem_of_getElem? (i := 66) rfl) rfl
