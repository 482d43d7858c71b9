/-! Checks of methods. -/
theorem mD_401_0 : ck_t prog_9_method_9_code mT_401_0 = true := by decide +kernel
theorem mD_401 : ck_t prog_9_method_9_code mT_401 = true := mD_401_0
theorem mO_401 : mC_401.all (ck_c lw_tbl (mi_ev []) mi_Gs mi_mq mi_fr mi_lo 401 "SafeCode$States") = true := by decide +kernel
theorem mQ_401 : ck_q lw_tbl mi_cl mG_401 0 1 7 [262, 1569, 1570] = true := by decide +kernel
set_option maxRecDepth 100000 in
theorem mW_401 : Cond.code ⟨"SafeCode$States", "drop", "(I)V"⟩ prog_9_method_9_code 2 (none) ∈ lw_tbl.filter goodWord := mI_tables_1_6 (List.mem_of_getElem? (i := 124) rfl) rfl
theorem mD_402_0 : ck_t prog_9_method_16_code mT_402_0 = true := by decide +kernel
theorem mD_402_1 : ck_t prog_9_method_16_code mT_402_1 = true := by decide +kernel
theorem mD_402_2 : ck_t prog_9_method_16_code mT_402_2 = true := by decide +kernel
theorem mD_402 : ck_t prog_9_method_16_code mT_402 = true := ck_t_app mD_402_0 (ck_t_app mD_402_1 mD_402_2)
theorem mO_402 : mC_402.all (ck_c lw_tbl (mi_ev []) mi_Gs mi_mq mi_fr mi_lo 402 "SafeCode$States") = true := by decide +kernel
theorem mQ_402 : ck_q lw_tbl mi_cl mG_402 0 5 7 [262, 1434, 1435] = true := by decide +kernel
set_option maxRecDepth 100000 in
theorem mW_402 : Cond.code ⟨"SafeCode$States", "enter", "(IIIIJ)V"⟩ prog_9_method_16_code 16 (none) ∈ lw_tbl.filter goodWord := mI_tables_1_5 (List.mem_of_getElem? (i := 229) rfl) rfl
theorem mD_403_0 : ck_t prog_9_method_8_code mT_403_0 = true := by decide +kernel
theorem mD_403 : ck_t prog_9_method_8_code mT_403 = true := mD_403_0
theorem mO_403 : mC_403.all (ck_c lw_tbl (mi_ev []) mi_Gs mi_mq mi_fr mi_lo 403 "SafeCode$States") = true := by decide +kernel
theorem mQ_403 : ck_q lw_tbl mi_cl mG_403 0 1 7 [262, 1485, 1486] = true := by decide +kernel
set_option maxRecDepth 100000 in
theorem mW_403 : Cond.code ⟨"SafeCode$States", "fromTop", "(I)I"⟩ prog_9_method_8_code 2 (some .int) ∈ lw_tbl.filter goodWord := mI_tables_1_6 (List.mem_of_getElem? (i := 40) rfl) rfl
theorem mD_404_0 : ck_t prog_9_method_1_code mT_404_0 = true := by decide +kernel
theorem mD_404 : ck_t prog_9_method_1_code mT_404 = true := mD_404_0
theorem mO_404 : mC_404.all (ck_c lw_tbl (mi_ev []) mi_Gs mi_mq mi_fr mi_lo 404 "SafeCode$States") = true := by decide +kernel
theorem mQ_404 : ck_q lw_tbl mi_cl mG_404 1 0 0 [262, 760] = true := by decide +kernel
set_option maxRecDepth 100000 in
theorem mW_404 : Cond.code ⟨"SafeCode$States", "<init>", "()V"⟩ prog_9_method_1_code 1 (none) ∈ lw_tbl.filter goodWord := mI_tables_1_3 (List.mem_of_getElem? (i := 34) rfl) rfl
theorem mD_405_0 : ck_t prog_9_method_17_code mT_405_0 = true := by decide +kernel
theorem mD_405_1 : ck_t prog_9_method_17_code mT_405_1 = true := by decide +kernel
theorem mD_405_2 : ck_t prog_9_method_17_code mT_405_2 = true := by decide +kernel
theorem mD_405 : ck_t prog_9_method_17_code mT_405 = true := ck_t_app mD_405_0 (ck_t_app mD_405_1 mD_405_2)
theorem mO_405 : mC_405.all (ck_c lw_tbl (mi_ev []) mi_Gs mi_mq mi_fr mi_lo 405 "SafeCode$States") = true := by decide +kernel
theorem mQ_405 : ck_q lw_tbl mi_cl mG_405 0 4 7 [262, 1440, 49] = true := by decide +kernel
set_option maxRecDepth 100000 in
theorem mW_405 : Cond.code ⟨"SafeCode$States", "joinSlot", "(IJJZ)Z"⟩ prog_9_method_17_code 15 (some .boolean) ∈ lw_tbl.filter goodWord := mI_tables_1_5 (List.mem_of_getElem? (i := 234) rfl) rfl
