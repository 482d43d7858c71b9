/-! Checks of methods. -/
theorem mD_406_0 : ck_t prog_9_method_13_code mT_406_0 = true := by decide +kernel
theorem mD_406 : ck_t prog_9_method_13_code mT_406 = true := mD_406_0
theorem mO_406 : mC_406.all (ck_c lw_tbl (mi_ev []) mi_Gs mi_mq mi_fr mi_lo 406 "SafeCode$States") = true := by decide +kernel
theorem mQ_406 : ck_q lw_tbl mi_cl mG_406 0 2 7 [262, 1590, 1591] = true := by decide +kernel
set_option maxRecDepth 100000 in
theorem mW_406 : Cond.code ⟨"SafeCode$States", "keepSites", "(IJ)Z"⟩ prog_9_method_13_code 5 (some .boolean) ∈ lw_tbl.filter goodWord := mI_tables_1_6 (List.mem_of_getElem? (i := 145) rfl) rfl
theorem mD_407_0 : ck_t prog_9_method_14_code mT_407_0 = true := by decide +kernel
theorem mD_407 : ck_t prog_9_method_14_code mT_407 = true := mD_407_0
theorem mO_407 : mC_407.all (ck_c lw_tbl (mi_ev []) mi_Gs mi_mq mi_fr mi_lo 407 "SafeCode$States") = true := by decide +kernel
theorem mQ_407 : ck_q lw_tbl mi_cl mG_407 0 3 7 [262, 1562, 1563] = true := by decide +kernel
set_option maxRecDepth 100000 in
theorem mW_407 : Cond.code ⟨"SafeCode$States", "narrow", "(IJJ)Z"⟩ prog_9_method_14_code 7 (some .boolean) ∈ lw_tbl.filter goodWord := mI_tables_1_6 (List.mem_of_getElem? (i := 117) rfl) rfl
theorem mD_408_0 : ck_t prog_9_method_7_code mT_408_0 = true := by decide +kernel
theorem mD_408 : ck_t prog_9_method_7_code mT_408 = true := mD_408_0
theorem mO_408 : mC_408.all (ck_c lw_tbl (mi_ev []) mi_Gs mi_mq mi_fr mi_lo 408 "SafeCode$States") = true := by decide +kernel
theorem mQ_408 : ck_q lw_tbl mi_cl mG_408 0 2 7 [262, 1622, 1623] = true := by decide +kernel
set_option maxRecDepth 100000 in
theorem mW_408 : Cond.code ⟨"SafeCode$States", "push", "(JJ)V"⟩ prog_9_method_7_code 5 (none) ∈ lw_tbl.filter goodWord := mI_tables_1_6 (List.mem_of_getElem? (i := 177) rfl) rfl
theorem mD_409_0 : ck_t prog_9_method_12_code mT_409_0 = true := by decide +kernel
theorem mD_409 : ck_t prog_9_method_12_code mT_409 = true := mD_409_0
theorem mO_409 : mC_409.all (ck_c lw_tbl (mi_ev []) mi_Gs mi_mq mi_fr mi_lo 409 "SafeCode$States") = true := by decide +kernel
theorem mQ_409 : ck_q lw_tbl mi_cl mG_409 0 1 7 [262, 1759, 1760] = true := by decide +kernel
set_option maxRecDepth 100000 in
theorem mW_409 : Cond.code ⟨"SafeCode$States", "storeTop", "(I)V"⟩ prog_9_method_12_code 3 (none) ∈ lw_tbl.filter goodWord := mI_tables_1_7 (List.mem_of_getElem? (i := 74) rfl) rfl
theorem mD_410_0 : ck_t prog_9_method_10_code mT_410_0 = true := by decide +kernel
theorem mD_410 : ck_t prog_9_method_10_code mT_410 = true := mD_410_0
theorem mO_410 : mC_410.all (ck_c lw_tbl (mi_ev []) mi_Gs mi_mq mi_fr mi_lo 410 "SafeCode$States") = true := by decide +kernel
theorem mQ_410 : ck_q lw_tbl mi_cl mG_410 0 0 7 [262, 1774, 1775] = true := by decide +kernel
set_option maxRecDepth 100000 in
theorem mW_410 : Cond.code ⟨"SafeCode$States", "swap", "()V"⟩ prog_9_method_10_code 6 (none) ∈ lw_tbl.filter goodWord := mI_tables_1_7 (List.mem_of_getElem? (i := 89) rfl) rfl
theorem mD_411_0 : ck_t prog_9_method_5_code mT_411_0 = true := by decide +kernel
theorem mD_411 : ck_t prog_9_method_5_code mT_411 = true := mD_411_0
theorem mO_411 : mC_411.all (ck_c lw_tbl (mi_ev []) mi_Gs mi_mq mi_fr mi_lo 411 "SafeCode$States") = true := by decide +kernel
theorem mQ_411 : ck_q lw_tbl mi_cl mG_411 0 1 7 [262, 1455, 1456] = true := by decide +kernel
set_option maxRecDepth 100000 in
theorem mW_411 : Cond.code ⟨"SafeCode$States", "takeWaiting", "(I)I"⟩ prog_9_method_5_code 5 (some .int) ∈ lw_tbl.filter goodWord := mI_tables_1_6 (List.mem_of_getElem? (i := 10) rfl) rfl
