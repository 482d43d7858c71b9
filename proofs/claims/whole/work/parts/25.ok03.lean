/-! Checks of methods. -/
theorem mD_16_0 : ck_t prog_12_method_9_code mT_16_0 = true := by decide +kernel
theorem mD_16 : ck_t prog_12_method_9_code mT_16 = true := mD_16_0
theorem mO_16 : mC_16.all (ck_c lw_tbl (mi_ev []) mi_Gs mi_mq mi_fr mi_lo 16 "SafeCode$Words") = true := by decide +kernel
theorem mQ_16 : ck_q lw_tbl mi_cl mG_16 0 0 10 [249, 1040, 11] = true := by decide +kernel
set_option maxRecDepth 100000 in
theorem mW_16 : Cond.code ⟨"SafeCode$Words", "forgetMeanings", "()V"⟩ prog_12_method_9_code 3 (none) ∈ lw_tbl.filter goodWord := mI_tables_1_4 (List.mem_of_getElem? (i := 74) rfl) rfl
theorem mD_17_0 : ck_t prog_12_method_1_code mT_17_0 = true := by decide +kernel
theorem mD_17_1 : ck_t prog_12_method_1_code mT_17_1 = true := by decide +kernel
theorem mD_17_2 : ck_t prog_12_method_1_code mT_17_2 = true := by decide +kernel
theorem mD_17 : ck_t prog_12_method_1_code mT_17 = true := ck_t_app mD_17_0 (ck_t_app mD_17_1 mD_17_2)
theorem mO_17 : mC_17.all (ck_c lw_tbl (mi_ev []) mi_Gs mi_mq mi_fr mi_lo 17 "SafeCode$Words") = true := by decide +kernel
theorem mQ_17 : ck_q lw_tbl mi_cl mG_17 1 0 0 [249, 282] = true := by decide +kernel
set_option maxRecDepth 100000 in
theorem mW_17 : Cond.code ⟨"SafeCode$Words", "<init>", "()V"⟩ prog_12_method_1_code 2 (none) ∈ lw_tbl.filter goodWord := mI_tables_1_1 (List.mem_of_getElem? (i := 36) rfl) rfl
theorem mD_18_0 : ck_t prog_12_method_13_code mT_18_0 = true := by decide +kernel
theorem mD_18 : ck_t prog_12_method_13_code mT_18 = true := mD_18_0
theorem mO_18 : mC_18.all (ck_c lw_tbl (mi_ev []) mi_Gs mi_mq mi_fr mi_lo 18 "SafeCode$Words") = true := by decide +kernel
theorem mQ_18 : ck_q lw_tbl mi_cl mG_18 0 2 10 [249, 373, 8] = true := by decide +kernel
set_option maxRecDepth 100000 in
theorem mW_18 : Cond.code ⟨"SafeCode$Words", "isNumber", "(II)Z"⟩ prog_12_method_13_code 6 (some .boolean) ∈ lw_tbl.filter goodWord := mI_tables_1_1 (List.mem_of_getElem? (i := 127) rfl) rfl
theorem mD_19_0 : ck_t prog_12_method_8_code mT_19_0 = true := by decide +kernel
theorem mD_19 : ck_t prog_12_method_8_code mT_19 = true := mD_19_0
theorem mO_19 : mC_19.all (ck_c lw_tbl (mi_ev []) mi_Gs mi_mq mi_fr mi_lo 19 "SafeCode$Words") = true := by decide +kernel
theorem mQ_19 : ck_q lw_tbl mi_cl mG_19 0 3 10 [249, 357, 4] = true := by decide +kernel
set_option maxRecDepth 100000 in
theorem mW_19 : Cond.code ⟨"SafeCode$Words", "isWord", "(III)Z"⟩ prog_12_method_8_code 6 (some .boolean) ∈ lw_tbl.filter goodWord := mI_tables_1_1 (List.mem_of_getElem? (i := 111) rfl) rfl
theorem mD_20_0 : ck_t prog_12_method_7_code mT_20_0 = true := by decide +kernel
theorem mD_20_1 : ck_t prog_12_method_7_code mT_20_1 = true := by decide +kernel
theorem mD_20_2 : ck_t prog_12_method_7_code mT_20_2 = true := by decide +kernel
theorem mD_20 : ck_t prog_12_method_7_code mT_20 = true := ck_t_app mD_20_0 (ck_t_app mD_20_1 mD_20_2)
theorem mO_20 : mC_20.all (ck_c lw_tbl (mi_ev []) mi_Gs mi_mq mi_fr mi_lo 20 "SafeCode$Words") = true := by decide +kernel
theorem mQ_20 : ck_q lw_tbl mi_cl mG_20 0 2 10 [249, 353, 3] = true := by decide +kernel
set_option maxRecDepth 100000 in
theorem mW_20 : Cond.code ⟨"SafeCode$Words", "keep", "(II)I"⟩ prog_12_method_7_code 7 (some .int) ∈ lw_tbl.filter goodWord := mI_tables_1_1 (List.mem_of_getElem? (i := 107) rfl) rfl
