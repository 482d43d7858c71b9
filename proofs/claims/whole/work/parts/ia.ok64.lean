/-! Checks of methods. -/
theorem mD_355_0 : ck_t prog_7_method_23_code mT_355_0 = true := by decide +kernel
theorem mD_355 : ck_t prog_7_method_23_code mT_355 = true := mD_355_0
theorem mO_355 : mC_355.all (ck_c lw_tbl (mi_ev []) mi_Gs mi_mq mi_fr mi_lo 355 "SafeCode$Ranges") = true := by decide +kernel
theorem mQ_355 : ck_q lw_tbl mi_cl mG_355 0 2 5 [258, 1661, 69] = true := by decide +kernel
set_option maxRecDepth 100000 in
theorem mW_355 : Cond.code ⟨"SafeCode$Ranges", "disjunction", "(JJ)J"⟩ prog_7_method_23_code 6 (some .long) ∈ lw_tbl.filter goodWord := mI_tables_1_6 (List.mem_of_getElem? (i := 215) rfl) rfl
theorem mD_356_0 : ck_t prog_7_method_4_code mT_356_0 = true := by decide +kernel
theorem mD_356 : ck_t prog_7_method_4_code mT_356 = true := mD_356_0
theorem mO_356 : mC_356.all (ck_c lw_tbl (mi_ev []) mi_Gs mi_mq mi_fr mi_lo 356 "SafeCode$Ranges") = true := by decide +kernel
theorem mQ_356 : ck_q lw_tbl mi_cl mG_356 3 1 0 [258, 1502] = true := by decide +kernel
set_option maxRecDepth 100000 in
theorem mW_356 : Cond.code ⟨"SafeCode$Ranges", "highest", "(J)I"⟩ prog_7_method_4_code 2 (some .int) ∈ lw_tbl.filter goodWord := mI_tables_1_6 (List.mem_of_getElem? (i := 56) rfl) rfl
theorem mD_357_0 : ck_t prog_7_method_11_code mT_357_0 = true := by decide +kernel
theorem mD_357 : ck_t prog_7_method_11_code mT_357 = true := mD_357_0
theorem mO_357 : mC_357.all (ck_c lw_tbl (mi_ev []) mi_Gs mi_mq mi_fr mi_lo 357 "SafeCode$Ranges") = true := by decide +kernel
theorem mQ_357 : ck_q lw_tbl mi_cl mG_357 0 1 5 [258, 1117, 20] = true := by decide +kernel
set_option maxRecDepth 100000 in
theorem mW_357 : Cond.code ⟨"SafeCode$Ranges", "include", "(I)V"⟩ prog_7_method_11_code 3 (none) ∈ lw_tbl.filter goodWord := mI_tables_1_4 (List.mem_of_getElem? (i := 151) rfl) rfl
theorem mD_358_0 : ck_t prog_7_method_10_code mT_358_0 = true := by decide +kernel
theorem mD_358 : ck_t prog_7_method_10_code mT_358 = true := mD_358_0
theorem mO_358 : mC_358.all (ck_c lw_tbl (mi_ev []) mi_Gs mi_mq mi_fr mi_lo 358 "SafeCode$Ranges") = true := by decide +kernel
theorem mQ_358 : ck_q lw_tbl mi_cl mG_358 0 1 5 [258, 1126, 1127] = true := by decide +kernel
set_option maxRecDepth 100000 in
theorem mW_358 : Cond.code ⟨"SafeCode$Ranges", "includeAround", "(I)V"⟩ prog_7_method_10_code 2 (none) ∈ lw_tbl.filter goodWord := mI_tables_1_4 (List.mem_of_getElem? (i := 161) rfl) rfl
theorem mD_359_0 : ck_t prog_7_method_1_code mT_359_0 = true := by decide +kernel
theorem mD_359 : ck_t prog_7_method_1_code mT_359 = true := mD_359_0
theorem mO_359 : mC_359.all (ck_c lw_tbl (mi_ev []) mi_Gs mi_mq mi_fr mi_lo 359 "SafeCode$Ranges") = true := by decide +kernel
theorem mQ_359 : ck_q lw_tbl mi_cl mG_359 1 0 0 [258, 585] = true := by decide +kernel
set_option maxRecDepth 100000 in
theorem mW_359 : Cond.code ⟨"SafeCode$Ranges", "<init>", "()V"⟩ prog_7_method_1_code 1 (none) ∈ lw_tbl.filter goodWord := mI_tables_1_2 (List.mem_of_getElem? (i := 99) rfl) rfl
theorem mD_360_0 : ck_t prog_7_method_5_code mT_360_0 = true := by decide +kernel
theorem mD_360 : ck_t prog_7_method_5_code mT_360 = true := mD_360_0
theorem mO_360 : mC_360.all (ck_c lw_tbl (mi_ev []) mi_Gs mi_mq mi_fr mi_lo 360 "SafeCode$Ranges") = true := by decide +kernel
theorem mQ_360 : ck_q lw_tbl mi_cl mG_360 3 1 0 [258, 1513] = true := by decide +kernel
set_option maxRecDepth 100000 in
theorem mW_360 : Cond.code ⟨"SafeCode$Ranges", "isNothing", "(J)Z"⟩ prog_7_method_5_code 2 (some .boolean) ∈ lw_tbl.filter goodWord := mI_tables_1_6 (List.mem_of_getElem? (i := 67) rfl) rfl
