/-! Checks of methods. -/
theorem mD_379_0 : ck_t prog_8_method_14_code mT_379_0 = true := by decide +kernel
theorem mD_379 : ck_t prog_8_method_14_code mT_379 = true := mD_379_0
theorem mO_379 : mC_379.all (ck_c lw_tbl (mi_ev []) mi_Gs mi_mq mi_fr mi_lo 379 "SafeCode$Reader") = true := by decide +kernel
theorem mQ_379 : ck_q lw_tbl mi_cl mG_379 0 2 6 [259, 1150, 24] = true := by decide +kernel
set_option maxRecDepth 100000 in
theorem mW_379 : Cond.code ⟨"SafeCode$Reader", "resolveField", "(II)I"⟩ prog_8_method_14_code 6 (some .int) ∈ lw_tbl.filter goodWord := mI_tables_1_4 (List.mem_of_getElem? (i := 184) rfl) rfl
theorem mD_380_0 : ck_t prog_8_method_15_code mT_380_0 = true := by decide +kernel
theorem mD_380_1 : ck_t prog_8_method_15_code mT_380_1 = true := by decide +kernel
theorem mD_380_2 : ck_t prog_8_method_15_code mT_380_2 = true := by decide +kernel
theorem mD_380_3 : ck_t prog_8_method_15_code mT_380_3 = true := by decide +kernel
theorem mD_380_4 : ck_t prog_8_method_15_code mT_380_4 = true := by decide +kernel
theorem mD_380 : ck_t prog_8_method_15_code mT_380 = true := ck_t_app mD_380_0 (ck_t_app mD_380_1 (ck_t_app mD_380_2 (ck_t_app mD_380_3 mD_380_4)))
theorem mO_380 : mC_380.all (ck_c lw_tbl (mi_ev []) mi_Gs mi_mq mi_fr mi_lo 380 "SafeCode$Reader") = true := by decide +kernel
theorem mQ_380 : ck_q lw_tbl mi_cl mG_380 0 2 6 [259, 1171, 25] = true := by decide +kernel
set_option maxRecDepth 100000 in
theorem mW_380 : Cond.code ⟨"SafeCode$Reader", "resolveHead", "(II)I"⟩ prog_8_method_15_code 9 (some .int) ∈ lw_tbl.filter goodWord := mI_tables_1_4 (List.mem_of_getElem? (i := 205) rfl) rfl
theorem mD_381_0 : ck_t prog_8_method_21_code mT_381_0 = true := by decide +kernel
theorem mD_381_1 : ck_t prog_8_method_21_code mT_381_1 = true := by decide +kernel
theorem mD_381_2 : ck_t prog_8_method_21_code mT_381_2 = true := by decide +kernel
theorem mD_381 : ck_t prog_8_method_21_code mT_381 = true := ck_t_app mD_381_0 (ck_t_app mD_381_1 mD_381_2)
theorem mO_381 : mC_381.all (ck_c lw_tbl (mi_ev []) mi_Gs mi_mq mi_fr mi_lo 381 "SafeCode$Reader") = true := by decide +kernel
theorem mQ_381 : ck_q lw_tbl mi_cl mG_381 0 2 6 [259, 1230, 31] = true := by decide +kernel
set_option maxRecDepth 100000 in
theorem mW_381 : Cond.code ⟨"SafeCode$Reader", "resolveInstruction", "(II)I"⟩ prog_8_method_21_code 5 (some .int) ∈ lw_tbl.filter goodWord := mI_tables_1_5 (List.mem_of_getElem? (i := 24) rfl) rfl
theorem mD_382_0 : ck_t prog_8_method_23_code mT_382_0 = true := by decide +kernel
theorem mD_382 : ck_t prog_8_method_23_code mT_382 = true := mD_382_0
theorem mO_382 : mC_382.all (ck_c lw_tbl (mi_ev []) mi_Gs mi_mq mi_fr mi_lo 382 "SafeCode$Reader") = true := by decide +kernel
theorem mQ_382 : ck_q lw_tbl mi_cl mG_382 0 2 6 [259, 1238, 33] = true := by decide +kernel
set_option maxRecDepth 100000 in
theorem mW_382 : Cond.code ⟨"SafeCode$Reader", "resolveMember", "(II)Z"⟩ prog_8_method_23_code 4 (some .boolean) ∈ lw_tbl.filter goodWord := mI_tables_1_5 (List.mem_of_getElem? (i := 32) rfl) rfl
theorem mD_383_0 : ck_t prog_8_method_11_code mT_383_0 = true := by decide +kernel
theorem mD_383 : ck_t prog_8_method_11_code mT_383 = true := mD_383_0
theorem mO_383 : mC_383.all (ck_c lw_tbl (mi_ev []) mi_Gs mi_mq mi_fr mi_lo 383 "SafeCode$Reader") = true := by decide +kernel
theorem mQ_383 : ck_q lw_tbl mi_cl mG_383 0 1 6 [259, 1094, 1095] = true := by decide +kernel
set_option maxRecDepth 100000 in
theorem mW_383 : Cond.code ⟨"SafeCode$Reader", "resolveNames", "(LSafeCode$Program;)I"⟩ prog_8_method_11_code 4 (some .int) ∈ lw_tbl.filter goodWord := mI_tables_1_4 (List.mem_of_getElem? (i := 129) rfl) rfl
