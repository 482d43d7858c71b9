/-! Checks of methods. -/
theorem mD_194_0 : ck_t prog_14_method_153_code mT_194_0 = true := by decide +kernel
theorem mD_194 : ck_t prog_14_method_153_code mT_194 = true := mD_194_0
theorem mO_194 : mC_194.all (ck_c lw_tbl (mi_ev []) mi_Gs mi_mq mi_fr mi_lo 194 "SafeCodeModel") = true := by decide +kernel
theorem mQ_194 : ck_q lw_tbl mi_cl mG_194 0 0 13 [265, 3098, 241] = true := by decide +kernel
set_option maxRecDepth 100000 in
theorem mW_194 : Cond.code ⟨"SafeCodeModel", "next", "()V"⟩ prog_14_method_153_code 1 (none) ∈ lw_tbl.filter goodWord := mI_tables_1_12 (List.mem_of_getElem? (i := 212) rfl) rfl
theorem mD_195_0 : ck_t prog_14_method_81_code mT_195_0 = true := by decide +kernel
theorem mD_195 : ck_t prog_14_method_81_code mT_195 = true := mD_195_0
theorem mO_195 : mC_195.all (ck_c lw_tbl (mi_ev []) mi_Gs mi_mq mi_fr mi_lo 195 "SafeCodeModel") = true := by decide +kernel
theorem mQ_195 : ck_q lw_tbl mi_cl mG_195 3 2 0 [265, 2831] = true := by decide +kernel
set_option maxRecDepth 100000 in
theorem mW_195 : Cond.code ⟨"SafeCodeModel", "notAbove", "(LSafeCodeModel$Program;J)I"⟩ prog_14_method_81_code 6 (some .int) ∈ lw_tbl.filter goodWord := mI_tables_1_11 (List.mem_of_getElem? (i := 185) rfl) rfl
theorem mD_196_0 : ck_t prog_14_method_82_code mT_196_0 = true := by decide +kernel
theorem mD_196 : ck_t prog_14_method_82_code mT_196 = true := mD_196_0
theorem mO_196 : mC_196.all (ck_c lw_tbl (mi_ev []) mi_Gs mi_mq mi_fr mi_lo 196 "SafeCodeModel") = true := by decide +kernel
theorem mQ_196 : ck_q lw_tbl mi_cl mG_196 3 2 0 [265, 2828] = true := by decide +kernel
set_option maxRecDepth 100000 in
theorem mW_196 : Cond.code ⟨"SafeCodeModel", "notBelow", "(LSafeCodeModel$Program;J)I"⟩ prog_14_method_82_code 6 (some .int) ∈ lw_tbl.filter goodWord := mI_tables_1_11 (List.mem_of_getElem? (i := 182) rfl) rfl
theorem mD_197_0 : ck_t prog_14_method_18_code mT_197_0 = true := by decide +kernel
theorem mD_197 : ck_t prog_14_method_18_code mT_197 = true := mD_197_0
theorem mO_197 : mC_197.all (ck_c lw_tbl (mi_ev []) mi_Gs mi_mq mi_fr mi_lo 197 "SafeCodeModel") = true := by decide +kernel
theorem mQ_197 : ck_q lw_tbl mi_cl mG_197 0 1 13 [265, 2540, 137] = true := by decide +kernel
set_option maxRecDepth 100000 in
theorem mW_197 : Cond.code ⟨"SafeCodeModel", "number", "(I)J"⟩ prog_14_method_18_code 6 (some .long) ∈ lw_tbl.filter goodWord := mI_tables_1_10 (List.mem_of_getElem? (i := 134) rfl) rfl
theorem mD_198_0 : ck_t prog_14_method_107_code mT_198_0 = true := by decide +kernel
theorem mD_198_1 : ck_t prog_14_method_107_code mT_198_1 = true := by decide +kernel
theorem mD_198_2 : ck_t prog_14_method_107_code mT_198_2 = true := by decide +kernel
theorem mD_198_3 : ck_t prog_14_method_107_code mT_198_3 = true := by decide +kernel
theorem mD_198_4 : ck_t prog_14_method_107_code mT_198_4 = true := by decide +kernel
theorem mD_198_5 : ck_t prog_14_method_107_code mT_198_5 = true := by decide +kernel
theorem mD_198_6 : ck_t prog_14_method_107_code mT_198_6 = true := by decide +kernel
theorem mD_198 : ck_t prog_14_method_107_code mT_198 = true := ck_t_app mD_198_0 (ck_t_app mD_198_1 (ck_t_app mD_198_2 (ck_t_app mD_198_3 (ck_t_app mD_198_4 (ck_t_app mD_198_5 mD_198_6)))))
theorem mO_198 : mC_198.all (ck_c lw_tbl (mi_ev []) mi_Gs mi_mq mi_fr mi_lo 198 "SafeCodeModel") = true := by decide +kernel
theorem mQ_198 : ck_q lw_tbl mi_cl mG_198 0 2 13 [265, 2948, 220] = true := by decide +kernel
set_option maxRecDepth 100000 in
theorem mW_198 : Cond.code ⟨"SafeCodeModel", "numbers", "(LSafeCodeModel$Program;I)Z"⟩ prog_14_method_107_code 15 (some .boolean) ∈ lw_tbl.filter goodWord := mI_tables_1_12 (List.mem_of_getElem? (i := 62) rfl) rfl
