/-! Checks of methods. -/
theorem mD_45_0 : ck_t prog_1_method_22_code mT_45_0 = true := by decide +kernel
theorem mD_45 : ck_t prog_1_method_22_code mT_45 = true := mD_45_0
theorem mO_45 : mC_45.all (ck_c lw_tbl (mi_ev []) mi_Gs mi_mq mi_fr mi_lo 45 "SafeCode") = true := by decide +kernel
theorem mQ_45 : ck_q lw_tbl mi_cl mG_45 0 1 11 [248, 1868, 1869] = true := by decide +kernel
set_option maxRecDepth 100000 in
theorem mW_45 : Cond.code ⟨"SafeCode", "run", "(I)I"⟩ prog_1_method_22_code 3 (some .int) ∈ lw_tbl.filter goodWord := mI_tables_1_7 (List.mem_of_getElem? (i := 183) rfl) rfl
theorem mD_46_0 : ck_t prog_1_method_18_code mT_46_0 = true := by decide +kernel
theorem mD_46 : ck_t prog_1_method_18_code mT_46 = true := mD_46_0
theorem mO_46 : mC_46.all (ck_c lw_tbl (mi_ev []) mi_Gs mi_mq mi_fr mi_lo 46 "SafeCode") = true := by decide +kernel
theorem mQ_46 : ck_q lw_tbl mi_cl mG_46 0 2 11 [248, 1848, 1849] = true := by decide +kernel
set_option maxRecDepth 100000 in
theorem mW_46 : Cond.code ⟨"SafeCode", "sites", "(II)J"⟩ prog_1_method_18_code 3 (some .long) ∈ lw_tbl.filter goodWord := mI_tables_1_7 (List.mem_of_getElem? (i := 163) rfl) rfl
theorem mD_47_0 : ck_t prog_1_method_7_code mT_47_0 = true := by decide +kernel
theorem mD_47 : ck_t prog_1_method_7_code mT_47 = true := mD_47_0
theorem mO_47 : mC_47.all (ck_c lw_tbl (mi_ev []) mi_Gs mi_mq mi_fr mi_lo 47 "SafeCode") = true := by decide +kernel
theorem mQ_47 : ck_q lw_tbl mi_cl mG_47 0 1 11 [248, 1801, 1802] = true := by decide +kernel
set_option maxRecDepth 100000 in
theorem mW_47 : Cond.code ⟨"SafeCode", "size", "(I)I"⟩ prog_1_method_7_code 2 (some .int) ∈ lw_tbl.filter goodWord := mI_tables_1_7 (List.mem_of_getElem? (i := 116) rfl) rfl
theorem mD_48_0 : ck_t prog_1_method_12_code mT_48_0 = true := by decide +kernel
theorem mD_48 : ck_t prog_1_method_12_code mT_48 = true := mD_48_0
theorem mO_48 : mC_48.all (ck_c lw_tbl (mi_ev []) mi_Gs mi_mq mi_fr mi_lo 48 "SafeCode") = true := by decide +kernel
theorem mQ_48 : ck_q lw_tbl mi_cl mG_48 0 2 11 [248, 1830, 92] = true := by decide +kernel
set_option maxRecDepth 100000 in
theorem mW_48 : Cond.code ⟨"SafeCode", "slotAt", "(II)I"⟩ prog_1_method_12_code 4 (some .int) ∈ lw_tbl.filter goodWord := mI_tables_1_7 (List.mem_of_getElem? (i := 144) rfl) rfl
theorem mD_49_0 : ck_t prog_1_method_23_code mT_49_0 = true := by decide +kernel
theorem mD_49 : ck_t prog_1_method_23_code mT_49 = true := mD_49_0
theorem mO_49 : mC_49.all (ck_c lw_tbl (mi_ev []) mi_Gs mi_mq mi_fr mi_lo 49 "SafeCode") = true := by decide +kernel
theorem mQ_49 : ck_q lw_tbl mi_cl mG_49 0 0 11 [248, 2028, 2029] = true := by decide +kernel
set_option maxRecDepth 100000 in
theorem mW_49 : Cond.code ⟨"SafeCode", "steps", "()I"⟩ prog_1_method_23_code 1 (some .int) ∈ lw_tbl.filter goodWord := mI_tables_1_8 (List.mem_of_getElem? (i := 103) rfl) rfl
theorem mD_50_0 : ck_t prog_1_method_28_code mT_50_0 = true := by decide +kernel
theorem mD_50 : ck_t prog_1_method_28_code mT_50 = true := mD_50_0
theorem mO_50 : mC_50.all (ck_c lw_tbl (mi_ev []) mi_Gs mi_mq mi_fr mi_lo 50 "SafeCode") = true := by decide +kernel
theorem mQ_50 : ck_q lw_tbl mi_cl mG_50 0 0 11 [248, 2048, 2049] = true := by decide +kernel
set_option maxRecDepth 100000 in
theorem mW_50 : Cond.code ⟨"SafeCode", "strays", "()I"⟩ prog_1_method_28_code 1 (some .int) ∈ lw_tbl.filter goodWord := mI_tables_1_8 (List.mem_of_getElem? (i := 123) rfl) rfl
