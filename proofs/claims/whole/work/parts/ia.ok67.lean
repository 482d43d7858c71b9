/-! Checks of methods. -/
theorem mD_373_0 : ck_t prog_8_method_2_code mT_373_0 = true := by decide +kernel
theorem mD_373 : ck_t prog_8_method_2_code mT_373 = true := mD_373_0
theorem mO_373 : mC_373.all (ck_c lw_tbl (mi_ev []) mi_Gs mi_mq mi_fr mi_lo 373 "SafeCode$Reader") = true := by decide +kernel
theorem mQ_373 : ck_q lw_tbl mi_cl mG_373 0 0 6 [259, 1043, 1044] = true := by decide +kernel
set_option maxRecDepth 100000 in
theorem mW_373 : Cond.code ⟨"SafeCode$Reader", "checkForm", "()I"⟩ prog_8_method_2_code 3 (some .int) ∈ lw_tbl.filter goodWord := mI_tables_1_4 (List.mem_of_getElem? (i := 78) rfl) rfl
theorem mD_374_0 : ck_t prog_8_method_1_code mT_374_0 = true := by decide +kernel
theorem mD_374 : ck_t prog_8_method_1_code mT_374 = true := mD_374_0
theorem mO_374 : mC_374.all (ck_c lw_tbl (mi_ev []) mi_Gs mi_mq mi_fr mi_lo 374 "SafeCode$Reader") = true := by decide +kernel
theorem mQ_374 : ck_q lw_tbl mi_cl mG_374 1 2 0 [259, 701] = true := by decide +kernel
set_option maxRecDepth 100000 in
theorem mW_374 : Cond.code ⟨"SafeCode$Reader", "<init>", "(LSafeCode$Words;LSafeCode$Program;)V"⟩ prog_8_method_1_code 3 (none) ∈ lw_tbl.filter goodWord := mI_tables_1_2 (List.mem_of_getElem? (i := 215) rfl) rfl
theorem mD_375_0 : ck_t prog_8_method_19_code mT_375_0 = true := by decide +kernel
theorem mD_375 : ck_t prog_8_method_19_code mT_375 = true := mD_375_0
theorem mO_375 : mC_375.all (ck_c lw_tbl (mi_ev []) mi_Gs mi_mq mi_fr mi_lo 375 "SafeCode$Reader") = true := by decide +kernel
theorem mQ_375 : ck_q lw_tbl mi_cl mG_375 0 2 6 [259, 1217, 30] = true := by decide +kernel
set_option maxRecDepth 100000 in
theorem mW_375 : Cond.code ⟨"SafeCode$Reader", "labelAt", "(II)I"⟩ prog_8_method_19_code 4 (some .int) ∈ lw_tbl.filter goodWord := mI_tables_1_5 (List.mem_of_getElem? (i := 11) rfl) rfl
theorem mD_376_0 : ck_t prog_8_method_17_code mT_376_0 = true := by decide +kernel
theorem mD_376 : ck_t prog_8_method_17_code mT_376 = true := mD_376_0
theorem mO_376 : mC_376.all (ck_c lw_tbl (mi_ev []) mi_Gs mi_mq mi_fr mi_lo 376 "SafeCode$Reader") = true := by decide +kernel
theorem mQ_376 : ck_q lw_tbl mi_cl mG_376 0 1 6 [259, 1209, 28] = true := by decide +kernel
set_option maxRecDepth 100000 in
theorem mW_376 : Cond.code ⟨"SafeCode$Reader", "lineTokens", "(I)I"⟩ prog_8_method_17_code 4 (some .int) ∈ lw_tbl.filter goodWord := mI_tables_1_5 (List.mem_of_getElem? (i := 3) rfl) rfl
theorem mD_377_0 : ck_t prog_8_method_18_code mT_377_0 = true := by decide +kernel
theorem mD_377 : ck_t prog_8_method_18_code mT_377 = true := mD_377_0
theorem mO_377 : mC_377.all (ck_c lw_tbl (mi_ev []) mi_Gs mi_mq mi_fr mi_lo 377 "SafeCode$Reader") = true := by decide +kernel
theorem mQ_377 : ck_q lw_tbl mi_cl mG_377 0 1 6 [259, 1205, 27] = true := by decide +kernel
set_option maxRecDepth 100000 in
theorem mW_377 : Cond.code ⟨"SafeCode$Reader", "markLabels", "(I)I"⟩ prog_8_method_18_code 6 (some .int) ∈ lw_tbl.filter goodWord := mI_tables_1_4 (List.mem_of_getElem? (i := 239) rfl) rfl
theorem mD_378_0 : ck_t prog_8_method_20_code mT_378_0 = true := by decide +kernel
theorem mD_378_1 : ck_t prog_8_method_20_code mT_378_1 = true := by decide +kernel
theorem mD_378_2 : ck_t prog_8_method_20_code mT_378_2 = true := by decide +kernel
theorem mD_378 : ck_t prog_8_method_20_code mT_378 = true := ck_t_app mD_378_0 (ck_t_app mD_378_1 mD_378_2)
theorem mO_378 : mC_378.all (ck_c lw_tbl (mi_ev []) mi_Gs mi_mq mi_fr mi_lo 378 "SafeCode$Reader") = true := by decide +kernel
theorem mQ_378 : ck_q lw_tbl mi_cl mG_378 0 2 6 [259, 1213, 29] = true := by decide +kernel
set_option maxRecDepth 100000 in
theorem mW_378 : Cond.code ⟨"SafeCode$Reader", "resolveCatch", "(II)I"⟩ prog_8_method_20_code 7 (some .int) ∈ lw_tbl.filter goodWord := mI_tables_1_5 (List.mem_of_getElem? (i := 7) rfl) rfl
