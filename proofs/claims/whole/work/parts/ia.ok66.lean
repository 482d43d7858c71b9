/-! Checks of methods. -/
theorem mD_367_0 : ck_t prog_7_method_17_code mT_367_0 = true := by decide +kernel
theorem mD_367 : ck_t prog_7_method_17_code mT_367 = true := mD_367_0
theorem mO_367 : mC_367.all (ck_c lw_tbl (mi_ev []) mi_Gs mi_mq mi_fr mi_lo 367 "SafeCode$Ranges") = true := by decide +kernel
theorem mQ_367 : ck_q lw_tbl mi_cl mG_367 0 2 5 [258, 1770, 1771] = true := by decide +kernel
set_option maxRecDepth 100000 in
theorem mW_367 : Cond.code ⟨"SafeCode$Ranges", "plus", "(JI)J"⟩ prog_7_method_17_code 4 (some .long) ∈ lw_tbl.filter goodWord := mI_tables_1_7 (List.mem_of_getElem? (i := 85) rfl) rfl
theorem mD_368_0 : ck_t prog_7_method_19_code mT_368_0 = true := by decide +kernel
theorem mD_368 : ck_t prog_7_method_19_code mT_368 = true := mD_368_0
theorem mO_368 : mC_368.all (ck_c lw_tbl (mi_ev []) mi_Gs mi_mq mi_fr mi_lo 368 "SafeCode$Ranges") = true := by decide +kernel
theorem mQ_368 : ck_q lw_tbl mi_cl mG_368 0 3 5 [258, 1639, 65] = true := by decide +kernel
set_option maxRecDepth 100000 in
theorem mW_368 : Cond.code ⟨"SafeCode$Ranges", "product", "(JJJ)J"⟩ prog_7_method_19_code 15 (some .long) ∈ lw_tbl.filter goodWord := mI_tables_1_6 (List.mem_of_getElem? (i := 193) rfl) rfl
theorem mD_369_0 : ck_t prog_7_method_20_code mT_369_0 = true := by decide +kernel
theorem mD_369_1 : ck_t prog_7_method_20_code mT_369_1 = true := by decide +kernel
theorem mD_369_2 : ck_t prog_7_method_20_code mT_369_2 = true := by decide +kernel
theorem mD_369 : ck_t prog_7_method_20_code mT_369 = true := ck_t_app mD_369_0 (ck_t_app mD_369_1 mD_369_2)
theorem mO_369 : mC_369.all (ck_c lw_tbl (mi_ev []) mi_Gs mi_mq mi_fr mi_lo 369 "SafeCode$Ranges") = true := by decide +kernel
theorem mQ_369 : ck_q lw_tbl mi_cl mG_369 0 2 5 [258, 1643, 66] = true := by decide +kernel
set_option maxRecDepth 100000 in
theorem mW_369 : Cond.code ⟨"SafeCode$Ranges", "quotient", "(JJ)J"⟩ prog_7_method_20_code 16 (some .long) ∈ lw_tbl.filter goodWord := mI_tables_1_6 (List.mem_of_getElem? (i := 197) rfl) rfl
theorem mD_370_0 : ck_t prog_7_method_21_code mT_370_0 = true := by decide +kernel
theorem mD_370 : ck_t prog_7_method_21_code mT_370 = true := mD_370_0
theorem mO_370 : mC_370.all (ck_c lw_tbl (mi_ev []) mi_Gs mi_mq mi_fr mi_lo 370 "SafeCode$Ranges") = true := by decide +kernel
theorem mQ_370 : ck_q lw_tbl mi_cl mG_370 0 2 5 [258, 1650, 67] = true := by decide +kernel
set_option maxRecDepth 100000 in
theorem mW_370 : Cond.code ⟨"SafeCode$Ranges", "remainder", "(JJ)J"⟩ prog_7_method_21_code 11 (some .long) ∈ lw_tbl.filter goodWord := mI_tables_1_6 (List.mem_of_getElem? (i := 204) rfl) rfl
theorem mD_371_0 : ck_t prog_7_method_24_code mT_371_0 = true := by decide +kernel
theorem mD_371 : ck_t prog_7_method_24_code mT_371 = true := mD_371_0
theorem mO_371 : mC_371.all (ck_c lw_tbl (mi_ev []) mi_Gs mi_mq mi_fr mi_lo 371 "SafeCode$Ranges") = true := by decide +kernel
theorem mQ_371 : ck_q lw_tbl mi_cl mG_371 0 2 5 [258, 1666, 70] = true := by decide +kernel
set_option maxRecDepth 100000 in
theorem mW_371 : Cond.code ⟨"SafeCode$Ranges", "shifted", "(JJ)J"⟩ prog_7_method_24_code 5 (some .long) ∈ lw_tbl.filter goodWord := mI_tables_1_6 (List.mem_of_getElem? (i := 220) rfl) rfl
theorem mD_372_0 : ck_t prog_7_method_15_code mT_372_0 = true := by decide +kernel
theorem mD_372 : ck_t prog_7_method_15_code mT_372 = true := mD_372_0
theorem mO_372 : mC_372.all (ck_c lw_tbl (mi_ev []) mi_Gs mi_mq mi_fr mi_lo 372 "SafeCode$Ranges") = true := by decide +kernel
theorem mQ_372 : ck_q lw_tbl mi_cl mG_372 0 2 5 [258, 1520, 1521] = true := by decide +kernel
set_option maxRecDepth 100000 in
theorem mW_372 : Cond.code ⟨"SafeCode$Ranges", "without", "(JJ)J"⟩ prog_7_method_15_code 11 (some .long) ∈ lw_tbl.filter goodWord := mI_tables_1_6 (List.mem_of_getElem? (i := 75) rfl) rfl
