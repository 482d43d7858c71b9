/-! Checks of methods. -/
theorem mD_221_0 : ck_t prog_14_method_137_code mT_221_0 = true := by decide +kernel
theorem mD_221_1 : ck_t prog_14_method_137_code mT_221_1 = true := by decide +kernel
theorem mD_221_2 : ck_t prog_14_method_137_code mT_221_2 = true := by decide +kernel
theorem mD_221 : ck_t prog_14_method_137_code mT_221 = true := ck_t_app mD_221_0 (ck_t_app mD_221_1 mD_221_2)
theorem mO_221 : mC_221.all (ck_c lw_tbl (mi_ev []) mi_Gs mi_mq mi_fr mi_lo 221 "SafeCodeModel") = true := by decide +kernel
theorem mQ_221 : ck_q lw_tbl mi_cl mG_221 0 1 13 [265, 3026, 3027] = true := by decide +kernel
set_option maxRecDepth 100000 in
theorem mW_221 : Cond.code ⟨"SafeCodeModel", "run", "(I)I"⟩ prog_14_method_137_code 3 (some .int) ∈ lw_tbl.filter goodWord := mI_tables_1_12 (List.mem_of_getElem? (i := 141) rfl) rfl
theorem mD_222_0 : ck_t prog_14_method_52_code mT_222_0 = true := by decide +kernel
theorem mD_222_1 : ck_t prog_14_method_52_code mT_222_1 = true := by decide +kernel
theorem mD_222_2 : ck_t prog_14_method_52_code mT_222_2 = true := by decide +kernel
theorem mD_222_3 : ck_t prog_14_method_52_code mT_222_3 = true := by decide +kernel
theorem mD_222_4 : ck_t prog_14_method_52_code mT_222_4 = true := by decide +kernel
theorem mD_222 : ck_t prog_14_method_52_code mT_222 = true := ck_t_app mD_222_0 (ck_t_app mD_222_1 (ck_t_app mD_222_2 (ck_t_app mD_222_3 mD_222_4)))
theorem mO_222 : mC_222.all (ck_c lw_tbl (mi_ev []) mi_Gs mi_mq mi_fr mi_lo 222 "SafeCodeModel") = true := by decide +kernel
theorem mQ_222 : ck_q lw_tbl mi_cl mG_222 0 1 13 [265, 2694, 172] = true := by decide +kernel
set_option maxRecDepth 100000 in
theorem mW_222 : Cond.code ⟨"SafeCodeModel", "settled", "(LSafeCodeModel$Program;)Z"⟩ prog_14_method_52_code 5 (some .boolean) ∈ lw_tbl.filter goodWord := mI_tables_1_11 (List.mem_of_getElem? (i := 48) rfl) rfl
theorem mD_223_0 : ck_t prog_14_method_148_code mT_223_0 = true := by decide +kernel
theorem mD_223 : ck_t prog_14_method_148_code mT_223 = true := mD_223_0
theorem mO_223 : mC_223.all (ck_c lw_tbl (mi_ev []) mi_Gs mi_mq mi_fr mi_lo 223 "SafeCodeModel") = true := by decide +kernel
theorem mQ_223 : ck_q lw_tbl mi_cl mG_223 0 1 13 [265, 3052, 231] = true := by decide +kernel
set_option maxRecDepth 100000 in
theorem mW_223 : Cond.code ⟨"SafeCodeModel", "siteOf", "(J)I"⟩ prog_14_method_148_code 3 (some .int) ∈ lw_tbl.filter goodWord := mI_tables_1_12 (List.mem_of_getElem? (i := 166) rfl) rfl
theorem mD_224_0 : ck_t prog_14_method_133_code mT_224_0 = true := by decide +kernel
theorem mD_224 : ck_t prog_14_method_133_code mT_224 = true := mD_224_0
theorem mO_224 : mC_224.all (ck_c lw_tbl (mi_ev []) mi_Gs mi_mq mi_fr mi_lo 224 "SafeCodeModel") = true := by decide +kernel
theorem mQ_224 : ck_q lw_tbl mi_cl mG_224 0 2 13 [265, 3010, 3011] = true := by decide +kernel
set_option maxRecDepth 100000 in
theorem mW_224 : Cond.code ⟨"SafeCodeModel", "sites", "(II)J"⟩ prog_14_method_133_code 3 (some .long) ∈ lw_tbl.filter goodWord := mI_tables_1_12 (List.mem_of_getElem? (i := 125) rfl) rfl
theorem mD_225_0 : ck_t prog_14_method_91_code mT_225_0 = true := by decide +kernel
theorem mD_225 : ck_t prog_14_method_91_code mT_225 = true := mD_225_0
theorem mO_225 : mC_225.all (ck_c lw_tbl (mi_ev []) mi_Gs mi_mq mi_fr mi_lo 225 "SafeCodeModel") = true := by decide +kernel
theorem mQ_225 : ck_q lw_tbl mi_cl mG_225 3 2 0 [265, 2928] = true := by decide +kernel
set_option maxRecDepth 100000 in
theorem mW_225 : Cond.code ⟨"SafeCodeModel", "sitesBelow", "(LSafeCodeModel$Program;I)J"⟩ prog_14_method_91_code 5 (some .long) ∈ lw_tbl.filter goodWord := mI_tables_1_12 (List.mem_of_getElem? (i := 42) rfl) rfl
