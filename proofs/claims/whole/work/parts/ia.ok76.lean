/-! Checks of methods. -/
theorem mD_424_0 : ck_t prog_11_method_4_code mT_424_0 = true := by decide +kernel
theorem mD_424 : ck_t prog_11_method_4_code mT_424 = true := mD_424_0
theorem mO_424 : mC_424.all (ck_c lw_tbl (mi_ev []) mi_Gs mi_mq mi_fr mi_lo 424 "SafeCode$Types") = true := by decide +kernel
theorem mQ_424 : ck_q lw_tbl mi_cl mG_424 0 1 9 [260, 1289, 37] = true := by decide +kernel
set_option maxRecDepth 100000 in
theorem mW_424 : Cond.code ⟨"SafeCode$Types", "fineHeights", "(I)I"⟩ prog_11_method_4_code 4 (some .int) ∈ lw_tbl.filter goodWord := mI_tables_1_5 (List.mem_of_getElem? (i := 83) rfl) rfl
theorem mD_425_0 : ck_t prog_11_method_2_code mT_425_0 = true := by decide +kernel
theorem mD_425 : ck_t prog_11_method_2_code mT_425 = true := mD_425_0
theorem mO_425 : mC_425.all (ck_c lw_tbl (mi_ev []) mi_Gs mi_mq mi_fr mi_lo 425 "SafeCode$Types") = true := by decide +kernel
theorem mQ_425 : ck_q lw_tbl mi_cl mG_425 0 1 9 [260, 1275, 1276] = true := by decide +kernel
set_option maxRecDepth 100000 in
theorem mW_425 : Cond.code ⟨"SafeCode$Types", "firstWrong", "(LSafeCode$Program;)I"⟩ prog_11_method_2_code 4 (some .int) ∈ lw_tbl.filter goodWord := mI_tables_1_5 (List.mem_of_getElem? (i := 70) rfl) rfl
theorem mD_426_0 : ck_t prog_11_method_12_code mT_426_0 = true := by decide +kernel
theorem mD_426_1 : ck_t prog_11_method_12_code mT_426_1 = true := by decide +kernel
theorem mD_426_2 : ck_t prog_11_method_12_code mT_426_2 = true := by decide +kernel
theorem mD_426_3 : ck_t prog_11_method_12_code mT_426_3 = true := by decide +kernel
theorem mD_426 : ck_t prog_11_method_12_code mT_426 = true := ck_t_app mD_426_0 (ck_t_app mD_426_1 (ck_t_app mD_426_2 mD_426_3))
theorem mO_426 : mC_426.all (ck_c lw_tbl (mi_ev []) mi_Gs mi_mq mi_fr mi_lo 426 "SafeCode$Types") = true := by decide +kernel
theorem mQ_426 : ck_q lw_tbl mi_cl mG_426 0 1 9 [260, 1371, 44] = true := by decide +kernel
set_option maxRecDepth 100000 in
theorem mW_426 : Cond.code ⟨"SafeCode$Types", "holds", "(I)Z"⟩ prog_11_method_12_code 8 (some .boolean) ∈ lw_tbl.filter goodWord := mI_tables_1_5 (List.mem_of_getElem? (i := 165) rfl) rfl
theorem mD_427_0 : ck_t prog_11_method_1_code mT_427_0 = true := by decide +kernel
theorem mD_427 : ck_t prog_11_method_1_code mT_427 = true := mD_427_0
theorem mO_427 : mC_427.all (ck_c lw_tbl (mi_ev []) mi_Gs mi_mq mi_fr mi_lo 427 "SafeCode$Types") = true := by decide +kernel
theorem mQ_427 : ck_q lw_tbl mi_cl mG_427 1 1 0 [260, 723] = true := by decide +kernel
set_option maxRecDepth 100000 in
theorem mW_427 : Cond.code ⟨"SafeCode$Types", "<init>", "(LSafeCode$Program;)V"⟩ prog_11_method_1_code 2 (none) ∈ lw_tbl.filter goodWord := mI_tables_1_2 (List.mem_of_getElem? (i := 237) rfl) rfl
theorem mD_428_0 : ck_t prog_11_method_11_code mT_428_0 = true := by decide +kernel
theorem mD_428_1 : ck_t prog_11_method_11_code mT_428_1 = true := by decide +kernel
theorem mD_428 : ck_t prog_11_method_11_code mT_428 = true := ck_t_app mD_428_0 mD_428_1
theorem mO_428 : mC_428.all (ck_c lw_tbl (mi_ev []) mi_Gs mi_mq mi_fr mi_lo 428 "SafeCode$Types") = true := by decide +kernel
theorem mQ_428 : ck_q lw_tbl mi_cl mG_428 0 2 9 [260, 1361, 43] = true := by decide +kernel
set_option maxRecDepth 100000 in
theorem mW_428 : Cond.code ⟨"SafeCode$Types", "leftType", "(II)I"⟩ prog_11_method_11_code 4 (some .int) ∈ lw_tbl.filter goodWord := mI_tables_1_5 (List.mem_of_getElem? (i := 155) rfl) rfl
