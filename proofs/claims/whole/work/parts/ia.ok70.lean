/-! Checks of methods. -/
theorem mD_389_0 : ck_t prog_8_method_10_code mT_389_0 = true := by decide +kernel
theorem mD_389 : ck_t prog_8_method_10_code mT_389 = true := mD_389_0
theorem mO_389 : mC_389.all (ck_c lw_tbl (mi_ev []) mi_Gs mi_mq mi_fr mi_lo 389 "SafeCode$Reader") = true := by decide +kernel
theorem mQ_389 : ck_q lw_tbl mi_cl mG_389 0 1 6 [259, 1091, 19] = true := by decide +kernel
set_option maxRecDepth 100000 in
theorem mW_389 : Cond.code ⟨"SafeCode$Reader", "takesOperands", "(I)Z"⟩ prog_8_method_10_code 3 (some .boolean) ∈ lw_tbl.filter goodWord := mI_tables_1_4 (List.mem_of_getElem? (i := 125) rfl) rfl
theorem mD_390_0 : ck_t prog_8_method_5_code mT_390_0 = true := by decide +kernel
theorem mD_390 : ck_t prog_8_method_5_code mT_390 = true := mD_390_0
theorem mO_390 : mC_390.all (ck_c lw_tbl (mi_ev []) mi_Gs mi_mq mi_fr mi_lo 390 "SafeCode$Reader") = true := by decide +kernel
theorem mQ_390 : ck_q lw_tbl mi_cl mG_390 0 1 6 [259, 1060, 14] = true := by decide +kernel
set_option maxRecDepth 100000 in
theorem mW_390 : Cond.code ⟨"SafeCode$Reader", "takesShape", "(I)Z"⟩ prog_8_method_5_code 2 (some .boolean) ∈ lw_tbl.filter goodWord := mI_tables_1_4 (List.mem_of_getElem? (i := 94) rfl) rfl
theorem mD_391_0 : ck_t prog_8_method_6_code mT_391_0 = true := by decide +kernel
theorem mD_391 : ck_t prog_8_method_6_code mT_391 = true := mD_391_0
theorem mO_391 : mC_391.all (ck_c lw_tbl (mi_ev []) mi_Gs mi_mq mi_fr mi_lo 391 "SafeCode$Reader") = true := by decide +kernel
theorem mQ_391 : ck_q lw_tbl mi_cl mG_391 0 0 6 [259, 1072, 16] = true := by decide +kernel
set_option maxRecDepth 100000 in
theorem mW_391 : Cond.code ⟨"SafeCode$Reader", "takesType", "()Z"⟩ prog_8_method_6_code 1 (some .boolean) ∈ lw_tbl.filter goodWord := mI_tables_1_4 (List.mem_of_getElem? (i := 106) rfl) rfl
theorem mD_392_0 : ck_t prog_8_method_4_code mT_392_0 = true := by decide +kernel
theorem mD_392 : ck_t prog_8_method_4_code mT_392 = true := mD_392_0
theorem mO_392 : mC_392.all (ck_c lw_tbl (mi_ev []) mi_Gs mi_mq mi_fr mi_lo 392 "SafeCode$Reader") = true := by decide +kernel
theorem mQ_392 : ck_q lw_tbl mi_cl mG_392 0 1 6 [259, 1048, 12] = true := by decide +kernel
set_option maxRecDepth 100000 in
theorem mW_392 : Cond.code ⟨"SafeCode$Reader", "takesWord", "(I)Z"⟩ prog_8_method_4_code 2 (some .boolean) ∈ lw_tbl.filter goodWord := mI_tables_1_4 (List.mem_of_getElem? (i := 82) rfl) rfl
theorem mD_393_0 : ck_t prog_8_method_12_code mT_393_0 = true := by decide +kernel
theorem mD_393_1 : ck_t prog_8_method_12_code mT_393_1 = true := by decide +kernel
theorem mD_393 : ck_t prog_8_method_12_code mT_393 = true := ck_t_app mD_393_0 mD_393_1
theorem mO_393 : mC_393.all (ck_c lw_tbl (mi_ev []) mi_Gs mi_mq mi_fr mi_lo 393 "SafeCode$Reader") = true := by decide +kernel
theorem mQ_393 : ck_q lw_tbl mi_cl mG_393 0 0 6 [259, 1133, 22] = true := by decide +kernel
set_option maxRecDepth 100000 in
theorem mW_393 : Cond.code ⟨"SafeCode$Reader", "walkClasses", "()I"⟩ prog_8_method_12_code 6 (some .int) ∈ lw_tbl.filter goodWord := mI_tables_1_4 (List.mem_of_getElem? (i := 167) rfl) rfl
theorem mD_394_0 : ck_t prog_8_method_16_code mT_394_0 = true := by decide +kernel
theorem mD_394_1 : ck_t prog_8_method_16_code mT_394_1 = true := by decide +kernel
theorem mD_394_2 : ck_t prog_8_method_16_code mT_394_2 = true := by decide +kernel
theorem mD_394_3 : ck_t prog_8_method_16_code mT_394_3 = true := by decide +kernel
theorem mD_394 : ck_t prog_8_method_16_code mT_394 = true := ck_t_app mD_394_0 (ck_t_app mD_394_1 (ck_t_app mD_394_2 mD_394_3))
theorem mO_394 : mC_394.all (ck_c lw_tbl (mi_ev []) mi_Gs mi_mq mi_fr mi_lo 394 "SafeCode$Reader") = true := by decide +kernel
theorem mQ_394 : ck_q lw_tbl mi_cl mG_394 0 1 6 [259, 1201, 26] = true := by decide +kernel
set_option maxRecDepth 100000 in
theorem mW_394 : Cond.code ⟨"SafeCode$Reader", "walkLines", "(I)I"⟩ prog_8_method_16_code 7 (some .int) ∈ lw_tbl.filter goodWord := mI_tables_1_4 (List.mem_of_getElem? (i := 235) rfl) rfl
