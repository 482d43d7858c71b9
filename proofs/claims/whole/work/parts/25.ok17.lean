/-! Checks of methods. -/
theorem mD_96_0 : ck_t prog_6_method_1_code mT_96_0 = true := by decide +kernel
theorem mD_96 : ck_t prog_6_method_1_code mT_96 = true := mD_96_0
theorem mO_96 : mC_96.all (ck_c lw_tbl (mi_ev []) mi_Gs mi_mq mi_fr mi_lo 96 "SafeCode$Proof") = true := by decide +kernel
theorem mQ_96 : ck_q lw_tbl mi_cl mG_96 1 1 0 [261, 754] = true := by decide +kernel
set_option maxRecDepth 100000 in
theorem mW_96 : Cond.code ⟨"SafeCode$Proof", "<init>", "(LSafeCode$Program;)V"⟩ prog_6_method_1_code 2 (none) ∈ lw_tbl.filter goodWord := mI_tables_1_3 (List.mem_of_getElem? (i := 28) rfl) rfl
theorem mD_97_0 : ck_t prog_7_method_9_code mT_97_0 = true := by decide +kernel
theorem mD_97 : ck_t prog_7_method_9_code mT_97 = true := mD_97_0
theorem mO_97 : mC_97.all (ck_c lw_tbl (mi_ev []) mi_Gs mi_mq mi_fr mi_lo 97 "SafeCode$Ranges") = true := by decide +kernel
theorem mQ_97 : ck_q lw_tbl mi_cl mG_97 0 0 5 [258, 1111, 1112] = true := by decide +kernel
set_option maxRecDepth 100000 in
theorem mW_97 : Cond.code ⟨"SafeCode$Ranges", "clear", "()V"⟩ prog_7_method_9_code 1 (none) ∈ lw_tbl.filter goodWord := mI_tables_1_4 (List.mem_of_getElem? (i := 146) rfl) rfl
theorem mD_98_0 : ck_t prog_7_method_11_code mT_98_0 = true := by decide +kernel
theorem mD_98 : ck_t prog_7_method_11_code mT_98 = true := mD_98_0
theorem mO_98 : mC_98.all (ck_c lw_tbl (mi_ev []) mi_Gs mi_mq mi_fr mi_lo 98 "SafeCode$Ranges") = true := by decide +kernel
theorem mQ_98 : ck_q lw_tbl mi_cl mG_98 0 1 5 [258, 1117, 20] = true := by decide +kernel
set_option maxRecDepth 100000 in
theorem mW_98 : Cond.code ⟨"SafeCode$Ranges", "include", "(I)V"⟩ prog_7_method_11_code 3 (none) ∈ lw_tbl.filter goodWord := mI_tables_1_4 (List.mem_of_getElem? (i := 151) rfl) rfl
theorem mD_99_0 : ck_t prog_7_method_10_code mT_99_0 = true := by decide +kernel
theorem mD_99 : ck_t prog_7_method_10_code mT_99 = true := mD_99_0
theorem mO_99 : mC_99.all (ck_c lw_tbl (mi_ev []) mi_Gs mi_mq mi_fr mi_lo 99 "SafeCode$Ranges") = true := by decide +kernel
theorem mQ_99 : ck_q lw_tbl mi_cl mG_99 0 1 5 [258, 1126, 1127] = true := by decide +kernel
set_option maxRecDepth 100000 in
theorem mW_99 : Cond.code ⟨"SafeCode$Ranges", "includeAround", "(I)V"⟩ prog_7_method_10_code 2 (none) ∈ lw_tbl.filter goodWord := mI_tables_1_4 (List.mem_of_getElem? (i := 161) rfl) rfl
theorem mD_100_0 : ck_t prog_7_method_1_code mT_100_0 = true := by decide +kernel
theorem mD_100 : ck_t prog_7_method_1_code mT_100 = true := mD_100_0
theorem mO_100 : mC_100.all (ck_c lw_tbl (mi_ev []) mi_Gs mi_mq mi_fr mi_lo 100 "SafeCode$Ranges") = true := by decide +kernel
theorem mQ_100 : ck_q lw_tbl mi_cl mG_100 1 0 0 [258, 585] = true := by decide +kernel
set_option maxRecDepth 100000 in
theorem mW_100 : Cond.code ⟨"SafeCode$Ranges", "<init>", "()V"⟩ prog_7_method_1_code 1 (none) ∈ lw_tbl.filter goodWord := mI_tables_1_2 (List.mem_of_getElem? (i := 99) rfl) rfl
theorem mD_101_0 : ck_t prog_7_method_12_code mT_101_0 = true := by decide +kernel
theorem mD_101 : ck_t prog_7_method_12_code mT_101 = true := mD_101_0
theorem mO_101 : mC_101.all (ck_c lw_tbl (mi_ev []) mi_Gs mi_mq mi_fr mi_lo 101 "SafeCode$Ranges") = true := by decide +kernel
theorem mQ_101 : ck_q lw_tbl mi_cl mG_101 0 1 5 [258, 1121, 21] = true := by decide +kernel
set_option maxRecDepth 100000 in
theorem mW_101 : Cond.code ⟨"SafeCode$Ranges", "placeOf", "(I)I"⟩ prog_7_method_12_code 5 (some .int) ∈ lw_tbl.filter goodWord := mI_tables_1_4 (List.mem_of_getElem? (i := 155) rfl) rfl
