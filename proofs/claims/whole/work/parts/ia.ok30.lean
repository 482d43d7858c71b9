/-! Checks of methods. -/
theorem mD_166_0 : ck_t prog_14_method_87_code mT_166_0 = true := by decide +kernel
theorem mD_166 : ck_t prog_14_method_87_code mT_166 = true := mD_166_0
theorem mO_166 : mC_166.all (ck_c lw_tbl (mi_ev []) mi_Gs mi_mq mi_fr mi_lo 166 "SafeCodeModel") = true := by decide +kernel
theorem mQ_166 : ck_q lw_tbl mi_cl mG_166 0 3 13 [265, 2896, 208] = true := by decide +kernel
set_option maxRecDepth 100000 in
theorem mW_166 : Cond.code ⟨"SafeCodeModel", "joinSites", "(LSafeCodeModel$Program;IJ)V"⟩ prog_14_method_87_code 5 (none) ∈ lw_tbl.filter goodWord := mI_tables_1_12 (List.mem_of_getElem? (i := 10) rfl) rfl
theorem mD_167_0 : ck_t prog_14_method_80_code mT_167_0 = true := by decide +kernel
theorem mD_167_1 : ck_t prog_14_method_80_code mT_167_1 = true := by decide +kernel
theorem mD_167_2 : ck_t prog_14_method_80_code mT_167_2 = true := by decide +kernel
theorem mD_167_3 : ck_t prog_14_method_80_code mT_167_3 = true := by decide +kernel
theorem mD_167_4 : ck_t prog_14_method_80_code mT_167_4 = true := by decide +kernel
theorem mD_167_5 : ck_t prog_14_method_80_code mT_167_5 = true := by decide +kernel
theorem mD_167_6 : ck_t prog_14_method_80_code mT_167_6 = true := by decide +kernel
theorem mD_167 : ck_t prog_14_method_80_code mT_167 = true := ck_t_app mD_167_0 (ck_t_app mD_167_1 (ck_t_app mD_167_2 (ck_t_app mD_167_3 (ck_t_app mD_167_4 (ck_t_app mD_167_5 mD_167_6)))))
theorem mO_167 : mC_167.all (ck_c lw_tbl (mi_ev []) mi_Gs mi_mq mi_fr mi_lo 167 "SafeCodeModel") = true := by decide +kernel
theorem mQ_167 : ck_q lw_tbl mi_cl mG_167 0 3 13 [265, 2798, 188] = true := by decide +kernel
set_option maxRecDepth 100000 in
theorem mW_167 : Cond.code ⟨"SafeCodeModel", "joinSlot", "(LSafeCodeModel$Program;II)Z"⟩ prog_14_method_80_code 5 (some .boolean) ∈ lw_tbl.filter goodWord := mI_tables_1_11 (List.mem_of_getElem? (i := 152) rfl) rfl
theorem mD_168_0 : ck_t prog_14_method_88_code mT_168_0 = true := by decide +kernel
theorem mD_168 : ck_t prog_14_method_88_code mT_168 = true := mD_168_0
theorem mO_168 : mC_168.all (ck_c lw_tbl (mi_ev []) mi_Gs mi_mq mi_fr mi_lo 168 "SafeCodeModel") = true := by decide +kernel
theorem mQ_168 : ck_q lw_tbl mi_cl mG_168 0 3 13 [265, 2925, 215] = true := by decide +kernel
set_option maxRecDepth 100000 in
theorem mW_168 : Cond.code ⟨"SafeCodeModel", "joinSlotInto", "(LSafeCodeModel$Program;II)V"⟩ prog_14_method_88_code 4 (none) ∈ lw_tbl.filter goodWord := mI_tables_1_12 (List.mem_of_getElem? (i := 39) rfl) rfl
theorem mD_169_0 : ck_t prog_14_method_65_code mT_169_0 = true := by decide +kernel
theorem mD_169 : ck_t prog_14_method_65_code mT_169 = true := mD_169_0
theorem mO_169 : mC_169.all (ck_c lw_tbl (mi_ev []) mi_Gs mi_mq mi_fr mi_lo 169 "SafeCodeModel") = true := by decide +kernel
theorem mQ_169 : ck_q lw_tbl mi_cl mG_169 3 3 0 [265, 2744] = true := by decide +kernel
set_option maxRecDepth 100000 in
theorem mW_169 : Cond.code ⟨"SafeCodeModel", "joined", "(LSafeCodeModel$Program;II)I"⟩ prog_14_method_65_code 7 (some .int) ∈ lw_tbl.filter goodWord := mI_tables_1_11 (List.mem_of_getElem? (i := 98) rfl) rfl
theorem mD_170_0 : ck_t prog_14_method_98_code mT_170_0 = true := by decide +kernel
theorem mD_170 : ck_t prog_14_method_98_code mT_170 = true := mD_170_0
theorem mO_170 : mC_170.all (ck_c lw_tbl (mi_ev []) mi_Gs mi_mq mi_fr mi_lo 170 "SafeCodeModel") = true := by decide +kernel
theorem mQ_170 : ck_q lw_tbl mi_cl mG_170 0 2 13 [265, 2819, 192] = true := by decide +kernel
set_option maxRecDepth 100000 in
theorem mW_170 : Cond.code ⟨"SafeCodeModel", "keeps", "(IJ)Z"⟩ prog_14_method_98_code 5 (some .boolean) ∈ lw_tbl.filter goodWord := mI_tables_1_11 (List.mem_of_getElem? (i := 173) rfl) rfl
