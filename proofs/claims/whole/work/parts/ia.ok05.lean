/-! Checks of methods. -/
theorem mD_28_0 : ck_t prog_2_method_5_code mT_28_0 = true := by decide +kernel
theorem mD_28 : ck_t prog_2_method_5_code mT_28 = true := mD_28_0
theorem mO_28 : mC_28.all (ck_c lw_tbl (mi_ev []) mi_Gs mi_mq mi_fr mi_lo 28 "SafeCode$Bodies") = true := by decide +kernel
theorem mQ_28 : ck_q lw_tbl mi_cl mG_28 0 2 0 [257, 1196, 1197] = true := by decide +kernel
set_option maxRecDepth 100000 in
theorem mW_28 : Cond.code ⟨"SafeCode$Bodies", "parameter", "(II)I"⟩ prog_2_method_5_code 3 (some .int) ∈ lw_tbl.filter goodWord := mI_tables_1_4 (List.mem_of_getElem? (i := 231) rfl) rfl
theorem mD_29_0 : ck_t prog_2_method_9_code mT_29_0 = true := by decide +kernel
theorem mD_29 : ck_t prog_2_method_9_code mT_29 = true := mD_29_0
theorem mO_29 : mC_29.all (ck_c lw_tbl (mi_ev []) mi_Gs mi_mq mi_fr mi_lo 29 "SafeCode$Bodies") = true := by decide +kernel
theorem mQ_29 : ck_q lw_tbl mi_cl mG_29 0 3 0 [257, 1268, 34] = true := by decide +kernel
set_option maxRecDepth 100000 in
theorem mW_29 : Cond.code ⟨"SafeCode$Bodies", "replaceRuns", "(LSafeCode$Classes;II)V"⟩ prog_2_method_9_code 5 (none) ∈ lw_tbl.filter goodWord := mI_tables_1_5 (List.mem_of_getElem? (i := 62) rfl) rfl
theorem mD_30_0 : ck_t prog_2_method_10_code mT_30_0 = true := by decide +kernel
theorem mD_30 : ck_t prog_2_method_10_code mT_30 = true := mD_30_0
theorem mO_30 : mC_30.all (ck_c lw_tbl (mi_ev []) mi_Gs mi_mq mi_fr mi_lo 30 "SafeCode$Bodies") = true := by decide +kernel
theorem mQ_30 : ck_q lw_tbl mi_cl mG_30 0 2 0 [257, 1428, 1429] = true := by decide +kernel
set_option maxRecDepth 100000 in
theorem mW_30 : Cond.code ⟨"SafeCode$Bodies", "running", "(II)I"⟩ prog_2_method_10_code 3 (some .int) ∈ lw_tbl.filter goodWord := mI_tables_1_5 (List.mem_of_getElem? (i := 223) rfl) rfl
theorem mD_31_0 : ck_t prog_12_method_6_code mT_31_0 = true := by decide +kernel
theorem mD_31 : ck_t prog_12_method_6_code mT_31 = true := mD_31_0
theorem mO_31 : mC_31.all (ck_c lw_tbl (mi_ev []) mi_Gs mi_mq mi_fr mi_lo 31 "SafeCode$Words") = true := by decide +kernel
theorem mQ_31 : ck_q lw_tbl mi_cl mG_31 0 2 10 [249, 349, 2] = true := by decide +kernel
set_option maxRecDepth 100000 in
theorem mW_31 : Cond.code ⟨"SafeCode$Words", "addToken", "(II)V"⟩ prog_12_method_6_code 3 (none) ∈ lw_tbl.filter goodWord := mI_tables_1_1 (List.mem_of_getElem? (i := 103) rfl) rfl
theorem mD_32_0 : ck_t prog_12_method_15_code mT_32_0 = true := by decide +kernel
theorem mD_32 : ck_t prog_12_method_15_code mT_32 = true := mD_32_0
theorem mO_32 : mC_32.all (ck_c lw_tbl (mi_ev []) mi_Gs mi_mq mi_fr mi_lo 32 "SafeCode$Words") = true := by decide +kernel
theorem mQ_32 : ck_q lw_tbl mi_cl mG_32 0 1 10 [249, 1051, 1052] = true := by decide +kernel
set_option maxRecDepth 100000 in
theorem mW_32 : Cond.code ⟨"SafeCode$Words", "at", "(I)I"⟩ prog_12_method_15_code 2 (some .int) ∈ lw_tbl.filter goodWord := mI_tables_1_4 (List.mem_of_getElem? (i := 86) rfl) rfl
theorem mD_33_0 : ck_t prog_12_method_5_code mT_33_0 = true := by decide +kernel
theorem mD_33_1 : ck_t prog_12_method_5_code mT_33_1 = true := by decide +kernel
theorem mD_33_2 : ck_t prog_12_method_5_code mT_33_2 = true := by decide +kernel
theorem mD_33 : ck_t prog_12_method_5_code mT_33 = true := ck_t_app mD_33_0 (ck_t_app mD_33_1 mD_33_2)
theorem mO_33 : mC_33.all (ck_c lw_tbl (mi_ev []) mi_Gs mi_mq mi_fr mi_lo 33 "SafeCode$Words") = true := by decide +kernel
theorem mQ_33 : ck_q lw_tbl mi_cl mG_33 0 2 10 [249, 345, 1] = true := by decide +kernel
set_option maxRecDepth 100000 in
theorem mW_33 : Cond.code ⟨"SafeCode$Words", "cut", "(II)Z"⟩ prog_12_method_5_code 10 (some .boolean) ∈ lw_tbl.filter goodWord := mI_tables_1_1 (List.mem_of_getElem? (i := 99) rfl) rfl
