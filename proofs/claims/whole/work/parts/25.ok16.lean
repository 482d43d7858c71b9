/-! Checks of methods. -/
theorem mD_90_0 : ck_t prog_3_method_3_code mT_90_0 = true := by decide +kernel
theorem mD_90 : ck_t prog_3_method_3_code mT_90 = true := mD_90_0
theorem mO_90 : mC_90.all (ck_c lw_tbl (mi_ev []) mi_Gs mi_mq mi_fr mi_lo 90 "SafeCode$Classes") = true := by decide +kernel
theorem mQ_90 : ck_q lw_tbl mi_cl mG_90 0 1 1 [256, 1107, 1108] = true := by decide +kernel
set_option maxRecDepth 100000 in
theorem mW_90 : Cond.code ⟨"SafeCode$Classes", "add", "(I)I"⟩ prog_3_method_3_code 2 (some .int) ∈ lw_tbl.filter goodWord := mI_tables_1_4 (List.mem_of_getElem? (i := 142) rfl) rfl
theorem mD_91_0 : ck_t prog_3_method_2_code mT_91_0 = true := by decide +kernel
theorem mD_91 : ck_t prog_3_method_2_code mT_91 = true := mD_91_0
theorem mO_91 : mC_91.all (ck_c lw_tbl (mi_ev []) mi_Gs mi_mq mi_fr mi_lo 91 "SafeCode$Classes") = true := by decide +kernel
theorem mQ_91 : ck_q lw_tbl mi_cl mG_91 0 0 1 [256, 1102, 1103] = true := by decide +kernel
set_option maxRecDepth 100000 in
theorem mW_91 : Cond.code ⟨"SafeCode$Classes", "clear", "()V"⟩ prog_3_method_2_code 2 (none) ∈ lw_tbl.filter goodWord := mI_tables_1_4 (List.mem_of_getElem? (i := 137) rfl) rfl
theorem mD_92_0 : ck_t prog_3_method_1_code mT_92_0 = true := by decide +kernel
theorem mD_92 : ck_t prog_3_method_1_code mT_92 = true := mD_92_0
theorem mO_92 : mC_92.all (ck_c lw_tbl (mi_ev []) mi_Gs mi_mq mi_fr mi_lo 92 "SafeCode$Classes") = true := by decide +kernel
theorem mQ_92 : ck_q lw_tbl mi_cl mG_92 1 0 0 [256, 446] = true := by decide +kernel
set_option maxRecDepth 100000 in
theorem mW_92 : Cond.code ⟨"SafeCode$Classes", "<init>", "()V"⟩ prog_3_method_1_code 1 (none) ∈ lw_tbl.filter goodWord := mI_tables_1_1 (List.mem_of_getElem? (i := 200) rfl) rfl
theorem mD_93_0 : ck_t prog_4_method_1_code mT_93_0 = true := by decide +kernel
theorem mD_93 : ck_t prog_4_method_1_code mT_93 = true := mD_93_0
theorem mO_93 : mC_93.all (ck_c lw_tbl (mi_ev []) mi_Gs mi_mq mi_fr mi_lo 93 "SafeCode$Machine") = true := by decide +kernel
theorem mQ_93 : ck_q lw_tbl mi_cl mG_93 1 3 0 [264, 897] = true := by decide +kernel
set_option maxRecDepth 100000 in
theorem mW_93 : Cond.code ⟨"SafeCode$Machine", "<init>", "(LSafeCode$Program;LSafeCode$Proof;[I)V"⟩ prog_4_method_1_code 4 (none) ∈ lw_tbl.filter goodWord := mI_tables_1_3 (List.mem_of_getElem? (i := 171) rfl) rfl
theorem mD_94_0 : ck_t prog_5_method_2_code mT_94_0 = true := by decide +kernel
theorem mD_94 : ck_t prog_5_method_2_code mT_94 = true := mD_94_0
theorem mO_94 : mC_94.all (ck_c lw_tbl (mi_ev []) mi_Gs mi_mq mi_fr mi_lo 94 "SafeCode$Program") = true := by decide +kernel
theorem mQ_94 : ck_q lw_tbl mi_cl mG_94 0 0 3 [255, 1098, 1099] = true := by decide +kernel
set_option maxRecDepth 100000 in
theorem mW_94 : Cond.code ⟨"SafeCode$Program", "clear", "()V"⟩ prog_5_method_2_code 2 (none) ∈ lw_tbl.filter goodWord := mI_tables_1_4 (List.mem_of_getElem? (i := 133) rfl) rfl
theorem mD_95_0 : ck_t prog_5_method_1_code mT_95_0 = true := by decide +kernel
theorem mD_95 : ck_t prog_5_method_1_code mT_95 = true := mD_95_0
theorem mO_95 : mC_95.all (ck_c lw_tbl (mi_ev []) mi_Gs mi_mq mi_fr mi_lo 95 "SafeCode$Program") = true := by decide +kernel
theorem mQ_95 : ck_q lw_tbl mi_cl mG_95 1 0 0 [255, 440] = true := by decide +kernel
set_option maxRecDepth 100000 in
theorem mW_95 : Cond.code ⟨"SafeCode$Program", "<init>", "()V"⟩ prog_5_method_1_code 1 (none) ∈ lw_tbl.filter goodWord := mI_tables_1_1 (List.mem_of_getElem? (i := 194) rfl) rfl
