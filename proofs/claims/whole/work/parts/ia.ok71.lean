/-! Checks of methods. -/
theorem mD_395_0 : ck_t prog_8_method_13_code mT_395_0 = true := by decide +kernel
theorem mD_395 : ck_t prog_8_method_13_code mT_395 = true := mD_395_0
theorem mO_395 : mC_395.all (ck_c lw_tbl (mi_ev []) mi_Gs mi_mq mi_fr mi_lo 395 "SafeCode$Reader") = true := by decide +kernel
theorem mQ_395 : ck_q lw_tbl mi_cl mG_395 0 0 6 [259, 1146, 23] = true := by decide +kernel
set_option maxRecDepth 100000 in
theorem mW_395 : Cond.code ⟨"SafeCode$Reader", "walkMembers", "()I"⟩ prog_8_method_13_code 6 (some .int) ∈ lw_tbl.filter goodWord := mI_tables_1_4 (List.mem_of_getElem? (i := 180) rfl) rfl
theorem mD_396_0 : ck_t prog_9_method_15_code mT_396_0 = true := by decide +kernel
theorem mD_396_1 : ck_t prog_9_method_15_code mT_396_1 = true := by decide +kernel
theorem mD_396_2 : ck_t prog_9_method_15_code mT_396_2 = true := by decide +kernel
theorem mD_396 : ck_t prog_9_method_15_code mT_396 = true := ck_t_app mD_396_0 (ck_t_app mD_396_1 mD_396_2)
theorem mO_396 : mC_396.all (ck_c lw_tbl (mi_ev []) mi_Gs mi_mq mi_fr mi_lo 396 "SafeCode$States") = true := by decide +kernel
theorem mQ_396 : ck_q lw_tbl mi_cl mG_396 0 1 7 [262, 1577, 1578] = true := by decide +kernel
set_option maxRecDepth 100000 in
theorem mW_396 : Cond.code ⟨"SafeCode$States", "arrive", "(I)V"⟩ prog_9_method_15_code 7 (none) ∈ lw_tbl.filter goodWord := mI_tables_1_6 (List.mem_of_getElem? (i := 132) rfl) rfl
theorem mD_397_0 : ck_t prog_9_method_6_code mT_397_0 = true := by decide +kernel
theorem mD_397 : ck_t prog_9_method_6_code mT_397 = true := mD_397_0
theorem mO_397 : mC_397.all (ck_c lw_tbl (mi_ev []) mi_Gs mi_mq mi_fr mi_lo 397 "SafeCode$States") = true := by decide +kernel
theorem mQ_397 : ck_q lw_tbl mi_cl mG_397 0 3 7 [262, 1476, 1477] = true := by decide +kernel
set_option maxRecDepth 100000 in
theorem mW_397 : Cond.code ⟨"SafeCode$States", "bring", "(III)V"⟩ prog_9_method_6_code 5 (none) ∈ lw_tbl.filter goodWord := mI_tables_1_6 (List.mem_of_getElem? (i := 31) rfl) rfl
theorem mD_398_0 : ck_t prog_9_method_11_code mT_398_0 = true := by decide +kernel
theorem mD_398 : ck_t prog_9_method_11_code mT_398 = true := mD_398_0
theorem mO_398 : mC_398.all (ck_c lw_tbl (mi_ev []) mi_Gs mi_mq mi_fr mi_lo 398 "SafeCode$States") = true := by decide +kernel
theorem mQ_398 : ck_q lw_tbl mi_cl mG_398 0 1 7 [262, 1763, 1764] = true := by decide +kernel
set_option maxRecDepth 100000 in
theorem mW_398 : Cond.code ⟨"SafeCode$States", "change", "(I)V"⟩ prog_9_method_11_code 5 (none) ∈ lw_tbl.filter goodWord := mI_tables_1_7 (List.mem_of_getElem? (i := 78) rfl) rfl
theorem mD_399_0 : ck_t prog_9_method_3_code mT_399_0 = true := by decide +kernel
theorem mD_399 : ck_t prog_9_method_3_code mT_399 = true := mD_399_0
theorem mO_399 : mC_399.all (ck_c lw_tbl (mi_ev []) mi_Gs mi_mq mi_fr mi_lo 399 "SafeCode$States") = true := by decide +kernel
theorem mQ_399 : ck_q lw_tbl mi_cl mG_399 0 0 7 [262, 1399, 1400] = true := by decide +kernel
set_option maxRecDepth 100000 in
theorem mW_399 : Cond.code ⟨"SafeCode$States", "clear", "()V"⟩ prog_9_method_3_code 2 (none) ∈ lw_tbl.filter goodWord := mI_tables_1_5 (List.mem_of_getElem? (i := 194) rfl) rfl
theorem mD_400_0 : ck_t prog_9_method_2_code mT_400_0 = true := by decide +kernel
theorem mD_400 : ck_t prog_9_method_2_code mT_400 = true := mD_400_0
theorem mO_400 : mC_400.all (ck_c lw_tbl (mi_ev []) mi_Gs mi_mq mi_fr mi_lo 400 "SafeCode$States") = true := by decide +kernel
theorem mQ_400 : ck_q lw_tbl mi_cl mG_400 3 1 0 [262, 1553] = true := by decide +kernel
set_option maxRecDepth 100000 in
theorem mW_400 : Cond.code ⟨"SafeCode$States", "copyOf", "(J)I"⟩ prog_9_method_2_code 2 (some .int) ∈ lw_tbl.filter goodWord := mI_tables_1_6 (List.mem_of_getElem? (i := 107) rfl) rfl
