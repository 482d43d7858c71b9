/-! Checks of methods. -/
theorem mD_429_0 : ck_t prog_11_method_10_code mT_429_0 = true := by decide +kernel
theorem mD_429_1 : ck_t prog_11_method_10_code mT_429_1 = true := by decide +kernel
theorem mD_429_2 : ck_t prog_11_method_10_code mT_429_2 = true := by decide +kernel
theorem mD_429 : ck_t prog_11_method_10_code mT_429 = true := ck_t_app mD_429_0 (ck_t_app mD_429_1 mD_429_2)
theorem mO_429 : mC_429.all (ck_c lw_tbl (mi_ev []) mi_Gs mi_mq mi_fr mi_lo 429 "SafeCode$Types") = true := by decide +kernel
theorem mQ_429 : ck_q lw_tbl mi_cl mG_429 0 1 9 [260, 1357, 42] = true := by decide +kernel
set_option maxRecDepth 100000 in
theorem mW_429 : Cond.code ⟨"SafeCode$Types", "perform", "(I)Z"⟩ prog_11_method_10_code 5 (some .boolean) ∈ lw_tbl.filter goodWord := mI_tables_1_5 (List.mem_of_getElem? (i := 151) rfl) rfl
theorem mD_430_0 : ck_t prog_11_method_5_code mT_430_0 = true := by decide +kernel
theorem mD_430_1 : ck_t prog_11_method_5_code mT_430_1 = true := by decide +kernel
theorem mD_430_2 : ck_t prog_11_method_5_code mT_430_2 = true := by decide +kernel
theorem mD_430 : ck_t prog_11_method_5_code mT_430 = true := ck_t_app mD_430_0 (ck_t_app mD_430_1 mD_430_2)
theorem mO_430 : mC_430.all (ck_c lw_tbl (mi_ev []) mi_Gs mi_mq mi_fr mi_lo 430 "SafeCode$Types") = true := by decide +kernel
theorem mQ_430 : ck_q lw_tbl mi_cl mG_430 0 1 9 [260, 1285, 36] = true := by decide +kernel
set_option maxRecDepth 100000 in
theorem mW_430 : Cond.code ⟨"SafeCode$Types", "spreadHeights", "(I)V"⟩ prog_11_method_5_code 7 (none) ∈ lw_tbl.filter goodWord := mI_tables_1_5 (List.mem_of_getElem? (i := 79) rfl) rfl
theorem mD_431_0 : ck_t prog_11_method_9_code mT_431_0 = true := by decide +kernel
theorem mD_431_1 : ck_t prog_11_method_9_code mT_431_1 = true := by decide +kernel
theorem mD_431_2 : ck_t prog_11_method_9_code mT_431_2 = true := by decide +kernel
theorem mD_431 : ck_t prog_11_method_9_code mT_431 = true := ck_t_app mD_431_0 (ck_t_app mD_431_1 mD_431_2)
theorem mO_431 : mC_431.all (ck_c lw_tbl (mi_ev []) mi_Gs mi_mq mi_fr mi_lo 431 "SafeCode$Types") = true := by decide +kernel
theorem mQ_431 : ck_q lw_tbl mi_cl mG_431 0 1 9 [260, 1352, 41] = true := by decide +kernel
set_option maxRecDepth 100000 in
theorem mW_431 : Cond.code ⟨"SafeCode$Types", "spreadTypes", "(I)V"⟩ prog_11_method_9_code 6 (none) ∈ lw_tbl.filter goodWord := mI_tables_1_5 (List.mem_of_getElem? (i := 146) rfl) rfl
theorem mD_432_0 : ck_t prog_11_method_14_code mT_432_0 = true := by decide +kernel
theorem mD_432_1 : ck_t prog_11_method_14_code mT_432_1 = true := by decide +kernel
theorem mD_432_2 : ck_t prog_11_method_14_code mT_432_2 = true := by decide +kernel
theorem mD_432 : ck_t prog_11_method_14_code mT_432 = true := ck_t_app mD_432_0 (ck_t_app mD_432_1 mD_432_2)
theorem mO_432 : mC_432.all (ck_c lw_tbl (mi_ev []) mi_Gs mi_mq mi_fr mi_lo 432 "SafeCode$Types") = true := by decide +kernel
theorem mQ_432 : ck_q lw_tbl mi_cl mG_432 0 4 9 [260, 1385, 46] = true := by decide +kernel
set_option maxRecDepth 100000 in
theorem mW_432 : Cond.code ⟨"SafeCode$Types", "suits", "(IIII)Z"⟩ prog_11_method_14_code 6 (some .boolean) ∈ lw_tbl.filter goodWord := mI_tables_1_5 (List.mem_of_getElem? (i := 179) rfl) rfl
