/-! Checks of methods. -/
theorem mD_108_0 : ck_t prog_9_method_1_code mT_108_0 = true := by decide +kernel
theorem mD_108 : ck_t prog_9_method_1_code mT_108 = true := mD_108_0
theorem mO_108 : mC_108.all (ck_c lw_tbl (mi_ev []) mi_Gs mi_mq mi_fr mi_lo 108 "SafeCode$States") = true := by decide +kernel
theorem mQ_108 : ck_q lw_tbl mi_cl mG_108 1 0 0 [262, 760] = true := by decide +kernel
set_option maxRecDepth 100000 in
theorem mW_108 : Cond.code ⟨"SafeCode$States", "<init>", "()V"⟩ prog_9_method_1_code 1 (none) ∈ lw_tbl.filter goodWord := mI_tables_1_3 (List.mem_of_getElem? (i := 34) rfl) rfl
theorem mD_109_0 : ck_t prog_10_method_1_code mT_109_0 = true := by decide +kernel
theorem mD_109 : ck_t prog_10_method_1_code mT_109 = true := mD_109_0
theorem mO_109 : mC_109.all (ck_c lw_tbl (mi_ev []) mi_Gs mi_mq mi_fr mi_lo 109 "SafeCode$Store") = true := by decide +kernel
theorem mQ_109 : ck_q lw_tbl mi_cl mG_109 1 0 0 [263, 803] = true := by decide +kernel
set_option maxRecDepth 100000 in
theorem mW_109 : Cond.code ⟨"SafeCode$Store", "<init>", "()V"⟩ prog_10_method_1_code 1 (none) ∈ lw_tbl.filter goodWord := mI_tables_1_3 (List.mem_of_getElem? (i := 77) rfl) rfl
theorem mD_110_0 : ck_t prog_11_method_1_code mT_110_0 = true := by decide +kernel
theorem mD_110 : ck_t prog_11_method_1_code mT_110 = true := mD_110_0
theorem mO_110 : mC_110.all (ck_c lw_tbl (mi_ev []) mi_Gs mi_mq mi_fr mi_lo 110 "SafeCode$Types") = true := by decide +kernel
theorem mQ_110 : ck_q lw_tbl mi_cl mG_110 1 1 0 [260, 723] = true := by decide +kernel
set_option maxRecDepth 100000 in
theorem mW_110 : Cond.code ⟨"SafeCode$Types", "<init>", "(LSafeCode$Program;)V"⟩ prog_11_method_1_code 2 (none) ∈ lw_tbl.filter goodWord := mI_tables_1_2 (List.mem_of_getElem? (i := 237) rfl) rfl
