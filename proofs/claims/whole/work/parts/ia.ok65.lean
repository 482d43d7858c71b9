/-! Checks of methods. -/
theorem mD_361_0 : ck_t prog_7_method_6_code mT_361_0 = true := by decide +kernel
theorem mD_361 : ck_t prog_7_method_6_code mT_361 = true := mD_361_0
theorem mO_361 : mC_361.all (ck_c lw_tbl (mi_ev []) mi_Gs mi_mq mi_fr mi_lo 361 "SafeCode$Ranges") = true := by decide +kernel
theorem mQ_361 : ck_q lw_tbl mi_cl mG_361 3 1 0 [258, 1524] = true := by decide +kernel
set_option maxRecDepth 100000 in
theorem mW_361 : Cond.code ⟨"SafeCode$Ranges", "isSingle", "(J)Z"⟩ prog_7_method_6_code 2 (some .boolean) ∈ lw_tbl.filter goodWord := mI_tables_1_6 (List.mem_of_getElem? (i := 78) rfl) rfl
theorem mD_362_0 : ck_t prog_7_method_7_code mT_362_0 = true := by decide +kernel
theorem mD_362 : ck_t prog_7_method_7_code mT_362 = true := mD_362_0
theorem mO_362 : mC_362.all (ck_c lw_tbl (mi_ev []) mi_Gs mi_mq mi_fr mi_lo 362 "SafeCode$Ranges") = true := by decide +kernel
theorem mQ_362 : ck_q lw_tbl mi_cl mG_362 3 2 0 [258, 1446] = true := by decide +kernel
set_option maxRecDepth 100000 in
theorem mW_362 : Cond.code ⟨"SafeCode$Ranges", "join", "(JJ)J"⟩ prog_7_method_7_code 8 (some .long) ∈ lw_tbl.filter goodWord := mI_tables_1_6 (List.mem_of_getElem? (i := 0) rfl) rfl
theorem mD_363_0 : ck_t prog_7_method_3_code mT_363_0 = true := by decide +kernel
theorem mD_363 : ck_t prog_7_method_3_code mT_363 = true := mD_363_0
theorem mO_363 : mC_363.all (ck_c lw_tbl (mi_ev []) mi_Gs mi_mq mi_fr mi_lo 363 "SafeCode$Ranges") = true := by decide +kernel
theorem mQ_363 : ck_q lw_tbl mi_cl mG_363 3 1 0 [258, 1496] = true := by decide +kernel
set_option maxRecDepth 100000 in
theorem mW_363 : Cond.code ⟨"SafeCode$Ranges", "lowest", "(J)I"⟩ prog_7_method_3_code 2 (some .int) ∈ lw_tbl.filter goodWord := mI_tables_1_6 (List.mem_of_getElem? (i := 50) rfl) rfl
theorem mD_364_0 : ck_t prog_7_method_18_code mT_364_0 = true := by decide +kernel
theorem mD_364 : ck_t prog_7_method_18_code mT_364 = true := mD_364_0
theorem mO_364 : mC_364.all (ck_c lw_tbl (mi_ev []) mi_Gs mi_mq mi_fr mi_lo 364 "SafeCode$Ranges") = true := by decide +kernel
theorem mQ_364 : ck_q lw_tbl mi_cl mG_364 0 1 5 [258, 1630, 1631] = true := by decide +kernel
set_option maxRecDepth 100000 in
theorem mW_364 : Cond.code ⟨"SafeCode$Ranges", "negative", "(J)J"⟩ prog_7_method_18_code 3 (some .long) ∈ lw_tbl.filter goodWord := mI_tables_1_6 (List.mem_of_getElem? (i := 185) rfl) rfl
theorem mD_365_0 : ck_t prog_7_method_2_code mT_365_0 = true := by decide +kernel
theorem mD_365 : ck_t prog_7_method_2_code mT_365 = true := mD_365_0
theorem mO_365 : mC_365.all (ck_c lw_tbl (mi_ev []) mi_Gs mi_mq mi_fr mi_lo 365 "SafeCode$Ranges") = true := by decide +kernel
theorem mQ_365 : ck_q lw_tbl mi_cl mG_365 3 2 0 [258, 1509] = true := by decide +kernel
set_option maxRecDepth 100000 in
theorem mW_365 : Cond.code ⟨"SafeCode$Ranges", "pack", "(II)J"⟩ prog_7_method_2_code 2 (some .long) ∈ lw_tbl.filter goodWord := mI_tables_1_6 (List.mem_of_getElem? (i := 63) rfl) rfl
theorem mD_366_0 : ck_t prog_7_method_12_code mT_366_0 = true := by decide +kernel
theorem mD_366 : ck_t prog_7_method_12_code mT_366 = true := mD_366_0
theorem mO_366 : mC_366.all (ck_c lw_tbl (mi_ev []) mi_Gs mi_mq mi_fr mi_lo 366 "SafeCode$Ranges") = true := by decide +kernel
theorem mQ_366 : ck_q lw_tbl mi_cl mG_366 0 1 5 [258, 1121, 21] = true := by decide +kernel
set_option maxRecDepth 100000 in
theorem mW_366 : Cond.code ⟨"SafeCode$Ranges", "placeOf", "(I)I"⟩ prog_7_method_12_code 5 (some .int) ∈ lw_tbl.filter goodWord := mI_tables_1_4 (List.mem_of_getElem? (i := 155) rfl) rfl
