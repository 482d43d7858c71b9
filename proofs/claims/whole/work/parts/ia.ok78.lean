/-! Checks of methods. -/
theorem mD_433_0 : ck_t prog_11_method_13_code mT_433_0 = true := by decide +kernel
theorem mD_433 : ck_t prog_11_method_13_code mT_433 = true := mD_433_0
theorem mO_433 : mC_433.all (ck_c lw_tbl (mi_ev []) mi_Gs mi_mq mi_fr mi_lo 433 "SafeCode$Types") = true := by decide +kernel
theorem mQ_433 : ck_q lw_tbl mi_cl mG_433 0 3 9 [260, 1375, 45] = true := by decide +kernel
set_option maxRecDepth 100000 in
theorem mW_433 : Cond.code ⟨"SafeCode$Types", "suitsParameter", "(III)Z"⟩ prog_11_method_13_code 6 (some .boolean) ∈ lw_tbl.filter goodWord := mI_tables_1_5 (List.mem_of_getElem? (i := 169) rfl) rfl
theorem mD_434_0 : ck_t prog_11_method_3_code mT_434_0 = true := by decide +kernel
theorem mD_434_1 : ck_t prog_11_method_3_code mT_434_1 = true := by decide +kernel
theorem mD_434_2 : ck_t prog_11_method_3_code mT_434_2 = true := by decide +kernel
theorem mD_434 : ck_t prog_11_method_3_code mT_434 = true := ck_t_app mD_434_0 (ck_t_app mD_434_1 mD_434_2)
theorem mO_434 : mC_434.all (ck_c lw_tbl (mi_ev []) mi_Gs mi_mq mi_fr mi_lo 434 "SafeCode$Types") = true := by decide +kernel
theorem mQ_434 : ck_q lw_tbl mi_cl mG_434 0 1 9 [260, 1280, 35] = true := by decide +kernel
set_option maxRecDepth 100000 in
theorem mW_434 : Cond.code ⟨"SafeCode$Types", "wrongHeight", "(I)I"⟩ prog_11_method_3_code 7 (some .int) ∈ lw_tbl.filter goodWord := mI_tables_1_5 (List.mem_of_getElem? (i := 74) rfl) rfl
theorem mD_435_0 : ck_t prog_11_method_7_code mT_435_0 = true := by decide +kernel
theorem mD_435_1 : ck_t prog_11_method_7_code mT_435_1 = true := by decide +kernel
theorem mD_435_2 : ck_t prog_11_method_7_code mT_435_2 = true := by decide +kernel
theorem mD_435_3 : ck_t prog_11_method_7_code mT_435_3 = true := by decide +kernel
theorem mD_435 : ck_t prog_11_method_7_code mT_435 = true := ck_t_app mD_435_0 (ck_t_app mD_435_1 (ck_t_app mD_435_2 mD_435_3))
theorem mO_435 : mC_435.all (ck_c lw_tbl (mi_ev []) mi_Gs mi_mq mi_fr mi_lo 435 "SafeCode$Types") = true := by decide +kernel
theorem mQ_435 : ck_q lw_tbl mi_cl mG_435 0 1 9 [260, 1332, 39] = true := by decide +kernel
set_option maxRecDepth 100000 in
theorem mW_435 : Cond.code ⟨"SafeCode$Types", "wrongType", "(I)I"⟩ prog_11_method_7_code 8 (some .int) ∈ lw_tbl.filter goodWord := mI_tables_1_5 (List.mem_of_getElem? (i := 126) rfl) rfl
