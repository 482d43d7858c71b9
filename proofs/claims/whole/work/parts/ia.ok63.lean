/-! Checks of methods. -/
theorem mD_349_0 : ck_t prog_7_method_13_code mT_349_0 = true := by decide +kernel
theorem mD_349 : ck_t prog_7_method_13_code mT_349 = true := mD_349_0
theorem mO_349 : mC_349.all (ck_c lw_tbl (mi_ev []) mi_Gs mi_mq mi_fr mi_lo 349 "SafeCode$Ranges") = true := by decide +kernel
theorem mQ_349 : ck_q lw_tbl mi_cl mG_349 0 2 5 [258, 1527, 1528] = true := by decide +kernel
set_option maxRecDepth 100000 in
theorem mW_349 : Cond.code ⟨"SafeCode$Ranges", "around", "(JJ)J"⟩ prog_7_method_13_code 9 (some .long) ∈ lw_tbl.filter goodWord := mI_tables_1_6 (List.mem_of_getElem? (i := 82) rfl) rfl
theorem mD_350_0 : ck_t prog_7_method_16_code mT_350_0 = true := by decide +kernel
theorem mD_350_1 : ck_t prog_7_method_16_code mT_350_1 = true := by decide +kernel
theorem mD_350_2 : ck_t prog_7_method_16_code mT_350_2 = true := by decide +kernel
theorem mD_350 : ck_t prog_7_method_16_code mT_350 = true := ck_t_app mD_350_0 (ck_t_app mD_350_1 mD_350_2)
theorem mO_350_0 : ((mC_350.drop 0).take 8).all (ck_c lw_tbl (mi_ev []) mi_Gs mi_mq mi_fr mi_lo 350 "SafeCode$Ranges") = true := by decide +kernel
theorem mO_350_1 : ((mC_350.drop 8).take 8).all (ck_c lw_tbl (mi_ev []) mi_Gs mi_mq mi_fr mi_lo 350 "SafeCode$Ranges") = true := by decide +kernel
theorem mO_350 : mC_350.all (ck_c lw_tbl (mi_ev []) mi_Gs mi_mq mi_fr mi_lo 350 "SafeCode$Ranges") = true := by
  have e : mC_350 = (mC_350.drop 0).take 8 ++ (mC_350.drop 8).take 8 := by decide +kernel
  rw [e]
  simp only [List.all_append, mO_350_0, mO_350_1, Bool.and_true]
theorem mQ_350 : ck_q lw_tbl mi_cl mG_350 0 3 5 [258, 1634, 1635] = true := by decide +kernel
set_option maxRecDepth 100000 in
theorem mW_350 : Cond.code ⟨"SafeCode$Ranges", "calculate", "(IJJ)J"⟩ prog_7_method_16_code 6 (some .long) ∈ lw_tbl.filter goodWord := mI_tables_1_6 (List.mem_of_getElem? (i := 189) rfl) rfl
theorem mD_351_0 : ck_t prog_7_method_9_code mT_351_0 = true := by decide +kernel
theorem mD_351 : ck_t prog_7_method_9_code mT_351 = true := mD_351_0
theorem mO_351 : mC_351.all (ck_c lw_tbl (mi_ev []) mi_Gs mi_mq mi_fr mi_lo 351 "SafeCode$Ranges") = true := by decide +kernel
theorem mQ_351 : ck_q lw_tbl mi_cl mG_351 0 0 5 [258, 1111, 1112] = true := by decide +kernel
set_option maxRecDepth 100000 in
theorem mW_351 : Cond.code ⟨"SafeCode$Ranges", "clear", "()V"⟩ prog_7_method_9_code 1 (none) ∈ lw_tbl.filter goodWord := mI_tables_1_4 (List.mem_of_getElem? (i := 146) rfl) rfl
theorem mD_352_0 : ck_t prog_7_method_8_code mT_352_0 = true := by decide +kernel
theorem mD_352 : ck_t prog_7_method_8_code mT_352 = true := mD_352_0
theorem mO_352 : mC_352.all (ck_c lw_tbl (mi_ev []) mi_Gs mi_mq mi_fr mi_lo 352 "SafeCode$Ranges") = true := by decide +kernel
theorem mQ_352 : ck_q lw_tbl mi_cl mG_352 3 2 0 [258, 1493] = true := by decide +kernel
set_option maxRecDepth 100000 in
theorem mW_352 : Cond.code ⟨"SafeCode$Ranges", "common", "(JJ)J"⟩ prog_7_method_8_code 6 (some .long) ∈ lw_tbl.filter goodWord := mI_tables_1_6 (List.mem_of_getElem? (i := 47) rfl) rfl
theorem mD_353_0 : ck_t prog_7_method_22_code mT_353_0 = true := by decide +kernel
theorem mD_353 : ck_t prog_7_method_22_code mT_353 = true := mD_353_0
theorem mO_353 : mC_353.all (ck_c lw_tbl (mi_ev []) mi_Gs mi_mq mi_fr mi_lo 353 "SafeCode$Ranges") = true := by decide +kernel
theorem mQ_353 : ck_q lw_tbl mi_cl mG_353 0 2 5 [258, 1657, 68] = true := by decide +kernel
set_option maxRecDepth 100000 in
theorem mW_353 : Cond.code ⟨"SafeCode$Ranges", "conjunction", "(JJ)J"⟩ prog_7_method_22_code 7 (some .long) ∈ lw_tbl.filter goodWord := mI_tables_1_6 (List.mem_of_getElem? (i := 211) rfl) rfl
theorem mD_354_0 : ck_t prog_7_method_14_code mT_354_0 = true := by decide +kernel
theorem mD_354 : ck_t prog_7_method_14_code mT_354 = true := mD_354_0
theorem mO_354 : mC_354.all (ck_c lw_tbl (mi_ev []) mi_Gs mi_mq mi_fr mi_lo 354 "SafeCode$Ranges") = true := by decide +kernel
theorem mQ_354 : ck_q lw_tbl mi_cl mG_354 0 3 5 [258, 1540, 1541] = true := by decide +kernel
set_option maxRecDepth 100000 in
theorem mW_354 : Cond.code ⟨"SafeCode$Ranges", "cut", "(JJJ)J"⟩ prog_7_method_14_code 11 (some .long) ∈ lw_tbl.filter goodWord := mI_tables_1_6 (List.mem_of_getElem? (i := 95) rfl) rfl
