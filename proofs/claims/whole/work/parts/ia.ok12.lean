/-! Checks of methods. -/
theorem mD_70_0 : ck_t prog_1_method_24_code mT_70_0 = true := by decide +kernel
theorem mD_70 : ck_t prog_1_method_24_code mT_70 = true := mD_70_0
theorem mO_70 : mC_70.all (ck_c lw_tbl (mi_ev []) mi_Gs mi_mq mi_fr mi_lo 70 "SafeCode") = true := by decide +kernel
theorem mQ_70 : ck_q lw_tbl mi_cl mG_70 0 0 11 [248, 2032, 2033] = true := by decide +kernel
set_option maxRecDepth 100000 in
theorem mW_70 : Cond.code ⟨"SafeCode", "place", "()I"⟩ prog_1_method_24_code 1 (some .int) ∈ lw_tbl.filter goodWord := mI_tables_1_8 (List.mem_of_getElem? (i := 107) rfl) rfl
theorem mD_71_0 : ck_t prog_1_method_22_code mT_71_0 = true := by decide +kernel
theorem mD_71 : ck_t prog_1_method_22_code mT_71 = true := mD_71_0
theorem mO_71 : mC_71.all (ck_c lw_tbl (mi_ev []) mi_Gs mi_mq mi_fr mi_lo 71 "SafeCode") = true := by decide +kernel
theorem mQ_71 : ck_q lw_tbl mi_cl mG_71 0 1 11 [248, 1868, 1869] = true := by decide +kernel
set_option maxRecDepth 100000 in
theorem mW_71 : Cond.code ⟨"SafeCode", "run", "(I)I"⟩ prog_1_method_22_code 3 (some .int) ∈ lw_tbl.filter goodWord := mI_tables_1_7 (List.mem_of_getElem? (i := 183) rfl) rfl
theorem mD_72_0 : ck_t prog_1_method_18_code mT_72_0 = true := by decide +kernel
theorem mD_72 : ck_t prog_1_method_18_code mT_72 = true := mD_72_0
theorem mO_72 : mC_72.all (ck_c lw_tbl (mi_ev []) mi_Gs mi_mq mi_fr mi_lo 72 "SafeCode") = true := by decide +kernel
theorem mQ_72 : ck_q lw_tbl mi_cl mG_72 0 2 11 [248, 1848, 1849] = true := by decide +kernel
set_option maxRecDepth 100000 in
theorem mW_72 : Cond.code ⟨"SafeCode", "sites", "(II)J"⟩ prog_1_method_18_code 3 (some .long) ∈ lw_tbl.filter goodWord := mI_tables_1_7 (List.mem_of_getElem? (i := 163) rfl) rfl
theorem mD_73_0 : ck_t prog_1_method_7_code mT_73_0 = true := by decide +kernel
theorem mD_73 : ck_t prog_1_method_7_code mT_73 = true := mD_73_0
theorem mO_73 : mC_73.all (ck_c lw_tbl (mi_ev []) mi_Gs mi_mq mi_fr mi_lo 73 "SafeCode") = true := by decide +kernel
theorem mQ_73 : ck_q lw_tbl mi_cl mG_73 0 1 11 [248, 1801, 1802] = true := by decide +kernel
set_option maxRecDepth 100000 in
theorem mW_73 : Cond.code ⟨"SafeCode", "size", "(I)I"⟩ prog_1_method_7_code 2 (some .int) ∈ lw_tbl.filter goodWord := mI_tables_1_7 (List.mem_of_getElem? (i := 116) rfl) rfl
theorem mD_74_0 : ck_t prog_1_method_12_code mT_74_0 = true := by decide +kernel
theorem mD_74 : ck_t prog_1_method_12_code mT_74 = true := mD_74_0
theorem mO_74 : mC_74.all (ck_c lw_tbl (mi_ev []) mi_Gs mi_mq mi_fr mi_lo 74 "SafeCode") = true := by decide +kernel
theorem mQ_74 : ck_q lw_tbl mi_cl mG_74 0 2 11 [248, 1830, 92] = true := by decide +kernel
set_option maxRecDepth 100000 in
theorem mW_74 : Cond.code ⟨"SafeCode", "slotAt", "(II)I"⟩ prog_1_method_12_code 4 (some .int) ∈ lw_tbl.filter goodWord := mI_tables_1_7 (List.mem_of_getElem? (i := 144) rfl) rfl
theorem mD_75_0 : ck_t prog_1_method_23_code mT_75_0 = true := by decide +kernel
theorem mD_75 : ck_t prog_1_method_23_code mT_75 = true := mD_75_0
theorem mO_75 : mC_75.all (ck_c lw_tbl (mi_ev []) mi_Gs mi_mq mi_fr mi_lo 75 "SafeCode") = true := by decide +kernel
theorem mQ_75 : ck_q lw_tbl mi_cl mG_75 0 0 11 [248, 2028, 2029] = true := by decide +kernel
set_option maxRecDepth 100000 in
theorem mW_75 : Cond.code ⟨"SafeCode", "steps", "()I"⟩ prog_1_method_23_code 1 (some .int) ∈ lw_tbl.filter goodWord := mI_tables_1_8 (List.mem_of_getElem? (i := 103) rfl) rfl
