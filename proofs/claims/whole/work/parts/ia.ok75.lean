/-! Checks of methods. -/
theorem mD_418_0 : ck_t prog_10_method_4_code mT_418_0 = true := by decide +kernel
theorem mD_418_1 : ck_t prog_10_method_4_code mT_418_1 = true := by decide +kernel
theorem mD_418_2 : ck_t prog_10_method_4_code mT_418_2 = true := by decide +kernel
theorem mD_418 : ck_t prog_10_method_4_code mT_418 = true := ck_t_app mD_418_0 (ck_t_app mD_418_1 mD_418_2)
theorem mO_418 : mC_418.all (ck_c lw_tbl (mi_ev []) mi_Gs mi_mq mi_fr mi_lo 418 "SafeCode$Store") = true := by decide +kernel
theorem mQ_418 : ck_q lw_tbl mi_cl mG_418 0 1 8 [263, 1406, 1407] = true := by decide +kernel
set_option maxRecDepth 100000 in
theorem mW_418 : Cond.code ⟨"SafeCode$Store", "clear", "(LSafeCode$Program;)V"⟩ prog_10_method_4_code 4 (none) ∈ lw_tbl.filter goodWord := mI_tables_1_5 (List.mem_of_getElem? (i := 201) rfl) rfl
theorem mD_419_0 : ck_t prog_10_method_1_code mT_419_0 = true := by decide +kernel
theorem mD_419 : ck_t prog_10_method_1_code mT_419 = true := mD_419_0
theorem mO_419 : mC_419.all (ck_c lw_tbl (mi_ev []) mi_Gs mi_mq mi_fr mi_lo 419 "SafeCode$Store") = true := by decide +kernel
theorem mQ_419 : ck_q lw_tbl mi_cl mG_419 1 0 0 [263, 803] = true := by decide +kernel
set_option maxRecDepth 100000 in
theorem mW_419 : Cond.code ⟨"SafeCode$Store", "<init>", "()V"⟩ prog_10_method_1_code 1 (none) ∈ lw_tbl.filter goodWord := mI_tables_1_3 (List.mem_of_getElem? (i := 77) rfl) rfl
theorem mD_420_0 : ck_t prog_10_method_3_code mT_420_0 = true := by decide +kernel
theorem mD_420 : ck_t prog_10_method_3_code mT_420 = true := mD_420_0
theorem mO_420 : mC_420.all (ck_c lw_tbl (mi_ev []) mi_Gs mi_mq mi_fr mi_lo 420 "SafeCode$Store") = true := by decide +kernel
theorem mQ_420 : ck_q lw_tbl mi_cl mG_420 3 3 0 [263, 1607] = true := by decide +kernel
set_option maxRecDepth 100000 in
theorem mW_420 : Cond.code ⟨"SafeCode$Store", "join", "(JJZ)J"⟩ prog_10_method_3_code 5 (some .long) ∈ lw_tbl.filter goodWord := mI_tables_1_6 (List.mem_of_getElem? (i := 161) rfl) rfl
theorem mD_421_0 : ck_t prog_10_method_2_code mT_421_0 = true := by decide +kernel
theorem mD_421 : ck_t prog_10_method_2_code mT_421 = true := mD_421_0
theorem mO_421 : mC_421.all (ck_c lw_tbl (mi_ev []) mi_Gs mi_mq mi_fr mi_lo 421 "SafeCode$Store") = true := by decide +kernel
theorem mQ_421 : ck_q lw_tbl mi_cl mG_421 3 1 0 [263, 1411] = true := by decide +kernel
set_option maxRecDepth 100000 in
theorem mW_421 : Cond.code ⟨"SafeCode$Store", "nothing", "(Z)J"⟩ prog_10_method_2_code 1 (some .long) ∈ lw_tbl.filter goodWord := mI_tables_1_5 (List.mem_of_getElem? (i := 205) rfl) rfl
theorem mD_422_0 : ck_t prog_11_method_6_code mT_422_0 = true := by decide +kernel
theorem mD_422 : ck_t prog_11_method_6_code mT_422 = true := mD_422_0
theorem mO_422 : mC_422.all (ck_c lw_tbl (mi_ev []) mi_Gs mi_mq mi_fr mi_lo 422 "SafeCode$Types") = true := by decide +kernel
theorem mQ_422 : ck_q lw_tbl mi_cl mG_422 0 2 9 [260, 1309, 38] = true := by decide +kernel
set_option maxRecDepth 100000 in
theorem mW_422 : Cond.code ⟨"SafeCode$Types", "addHeights", "(II)V"⟩ prog_11_method_6_code 3 (none) ∈ lw_tbl.filter goodWord := mI_tables_1_5 (List.mem_of_getElem? (i := 103) rfl) rfl
theorem mD_423_0 : ck_t prog_11_method_8_code mT_423_0 = true := by decide +kernel
theorem mD_423_1 : ck_t prog_11_method_8_code mT_423_1 = true := by decide +kernel
theorem mD_423_2 : ck_t prog_11_method_8_code mT_423_2 = true := by decide +kernel
theorem mD_423 : ck_t prog_11_method_8_code mT_423 = true := ck_t_app mD_423_0 (ck_t_app mD_423_1 mD_423_2)
theorem mO_423 : mC_423.all (ck_c lw_tbl (mi_ev []) mi_Gs mi_mq mi_fr mi_lo 423 "SafeCode$Types") = true := by decide +kernel
theorem mQ_423 : ck_q lw_tbl mi_cl mG_423 0 3 9 [260, 1338, 40] = true := by decide +kernel
set_option maxRecDepth 100000 in
theorem mW_423 : Cond.code ⟨"SafeCode$Types", "arrive", "(III)V"⟩ prog_11_method_8_code 8 (none) ∈ lw_tbl.filter goodWord := mI_tables_1_5 (List.mem_of_getElem? (i := 132) rfl) rfl
