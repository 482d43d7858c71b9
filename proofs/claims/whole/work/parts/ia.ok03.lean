/-! Checks of methods. -/
theorem mD_16_0 : ck_t prog_19_method_65_code mT_16_0 = true := by decide +kernel
theorem mD_16 : ck_t prog_19_method_65_code mT_16 = true := mD_16_0
theorem mO_16 : mC_16.all (ck_c lw_tbl (mi_ev []) mi_Gs mi_mq mi_fr mi_lo 16 "java/lang/Math") = true := by decide +kernel
theorem mQ_16 : ck_q lw_tbl mi_cl mG_16 3 2 0 [270, 1499] = true := by decide +kernel
set_option maxRecDepth 100000 in
theorem mW_16 : Cond.code ⟨"java/lang/Math", "max", "(II)I"⟩ prog_19_method_65_code 2 (some .int) ∈ lw_tbl.filter goodWord := mI_tables_1_6 (List.mem_of_getElem? (i := 53) rfl) rfl
theorem mD_17_0 : ck_t prog_19_method_66_code mT_17_0 = true := by decide +kernel
theorem mD_17 : ck_t prog_19_method_66_code mT_17 = true := mD_17_0
theorem mO_17 : mC_17.all (ck_c lw_tbl (mi_ev []) mi_Gs mi_mq mi_fr mi_lo 17 "java/lang/Math") = true := by decide +kernel
theorem mQ_17 : ck_q lw_tbl mi_cl mG_17 3 2 0 [270, 1544] = true := by decide +kernel
set_option maxRecDepth 100000 in
theorem mW_17 : Cond.code ⟨"java/lang/Math", "max", "(JJ)J"⟩ prog_19_method_66_code 4 (some .long) ∈ lw_tbl.filter goodWord := mI_tables_1_6 (List.mem_of_getElem? (i := 98) rfl) rfl
theorem mD_18_0 : ck_t prog_19_method_69_code mT_18_0 = true := by decide +kernel
theorem mD_18 : ck_t prog_19_method_69_code mT_18 = true := mD_18_0
theorem mO_18 : mC_18.all (ck_c lw_tbl (mi_ev []) mi_Gs mi_mq mi_fr mi_lo 18 "java/lang/Math") = true := by decide +kernel
theorem mQ_18 : ck_q lw_tbl mi_cl mG_18 3 2 0 [270, 1505] = true := by decide +kernel
set_option maxRecDepth 100000 in
theorem mW_18 : Cond.code ⟨"java/lang/Math", "min", "(II)I"⟩ prog_19_method_69_code 2 (some .int) ∈ lw_tbl.filter goodWord := mI_tables_1_6 (List.mem_of_getElem? (i := 59) rfl) rfl
theorem mD_19_0 : ck_t prog_19_method_70_code mT_19_0 = true := by decide +kernel
theorem mD_19 : ck_t prog_19_method_70_code mT_19 = true := mD_19_0
theorem mO_19 : mC_19.all (ck_c lw_tbl (mi_ev []) mi_Gs mi_mq mi_fr mi_lo 19 "java/lang/Math") = true := by decide +kernel
theorem mQ_19 : ck_q lw_tbl mi_cl mG_19 3 2 0 [270, 1547] = true := by decide +kernel
set_option maxRecDepth 100000 in
theorem mW_19 : Cond.code ⟨"java/lang/Math", "min", "(JJ)J"⟩ prog_19_method_70_code 4 (some .long) ∈ lw_tbl.filter goodWord := mI_tables_1_6 (List.mem_of_getElem? (i := 101) rfl) rfl
theorem mD_20_0 : ck_t prog_2_method_3_code mT_20_0 = true := by decide +kernel
theorem mD_20 : ck_t prog_2_method_3_code mT_20 = true := mD_20_0
theorem mO_20 : mC_20.all (ck_c lw_tbl (mi_ev []) mi_Gs mi_mq mi_fr mi_lo 20 "SafeCode$Bodies") = true := by decide +kernel
theorem mQ_20 : ck_q lw_tbl mi_cl mG_20 0 1 0 [257, 1178, 1179] = true := by decide +kernel
set_option maxRecDepth 100000 in
theorem mW_20 : Cond.code ⟨"SafeCode$Bodies", "addParameter", "(I)V"⟩ prog_2_method_3_code 2 (none) ∈ lw_tbl.filter goodWord := mI_tables_1_4 (List.mem_of_getElem? (i := 213) rfl) rfl
theorem mD_21_0 : ck_t prog_2_method_2_code mT_21_0 = true := by decide +kernel
theorem mD_21 : ck_t prog_2_method_2_code mT_21 = true := mD_21_0
theorem mO_21 : mC_21.all (ck_c lw_tbl (mi_ev []) mi_Gs mi_mq mi_fr mi_lo 21 "SafeCode$Bodies") = true := by decide +kernel
theorem mQ_21 : ck_q lw_tbl mi_cl mG_21 0 3 0 [257, 1174, 1175] = true := by decide +kernel
set_option maxRecDepth 100000 in
theorem mW_21 : Cond.code ⟨"SafeCode$Bodies", "begin", "(IIZ)V"⟩ prog_2_method_2_code 4 (none) ∈ lw_tbl.filter goodWord := mI_tables_1_4 (List.mem_of_getElem? (i := 209) rfl) rfl
