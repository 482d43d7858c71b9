/-! Checks of methods. -/
theorem mD_288_0 : ck_t prog_4_method_9_code mT_288_0 = true := by decide +kernel
theorem mD_288 : ck_t prog_4_method_9_code mT_288 = true := mD_288_0
theorem mO_288 : mC_288.all (ck_c lw_tbl (mi_ev []) mi_Gs mi_mq mi_fr mi_lo 288 "SafeCode$Machine") = true := by decide +kernel
theorem mQ_288 : ck_q lw_tbl mi_cl mG_288 0 1 2 [264, 1931, 104] = true := by decide +kernel
set_option maxRecDepth 100000 in
theorem mW_288 : Cond.code ⟨"SafeCode$Machine", "push", "(J)V"⟩ prog_4_method_9_code 3 (none) ∈ lw_tbl.filter goodWord := mI_tables_1_8 (List.mem_of_getElem? (i := 5) rfl) rfl
theorem mD_289_0 : ck_t prog_4_method_20_code mT_289_0 = true := by decide +kernel
theorem mD_289 : ck_t prog_4_method_20_code mT_289 = true := mD_289_0
theorem mO_289 : mC_289.all (ck_c lw_tbl (mi_ev []) mi_Gs mi_mq mi_fr mi_lo 289 "SafeCode$Machine") = true := by decide +kernel
theorem mQ_289 : ck_q lw_tbl mi_cl mG_289 0 2 2 [264, 1963, 111] = true := by decide +kernel
set_option maxRecDepth 100000 in
theorem mW_289 : Cond.code ⟨"SafeCode$Machine", "raise", "(II)I"⟩ prog_4_method_20_code 3 (some .int) ∈ lw_tbl.filter goodWord := mI_tables_1_8 (List.mem_of_getElem? (i := 37) rfl) rfl
theorem mD_290_0 : ck_t prog_4_method_12_code mT_290_0 = true := by decide +kernel
theorem mD_290 : ck_t prog_4_method_12_code mT_290 = true := mD_290_0
theorem mO_290 : mC_290.all (ck_c lw_tbl (mi_ev []) mi_Gs mi_mq mi_fr mi_lo 290 "SafeCode$Machine") = true := by decide +kernel
theorem mQ_290 : ck_q lw_tbl mi_cl mG_290 3 1 0 [264, 1938] = true := by decide +kernel
set_option maxRecDepth 100000 in
theorem mW_290 : Cond.code ⟨"SafeCode$Machine", "refCell", "(I)J"⟩ prog_4_method_12_code 1 (some .long) ∈ lw_tbl.filter goodWord := mI_tables_1_8 (List.mem_of_getElem? (i := 12) rfl) rfl
theorem mD_291_0 : ck_t prog_4_method_21_code mT_291_0 = true := by decide +kernel
theorem mD_291 : ck_t prog_4_method_21_code mT_291 = true := mD_291_0
theorem mO_291 : mC_291.all (ck_c lw_tbl (mi_ev []) mi_Gs mi_mq mi_fr mi_lo 291 "SafeCode$Machine") = true := by decide +kernel
theorem mQ_291 : ck_q lw_tbl mi_cl mG_291 0 2 2 [264, 2019, 122] = true := by decide +kernel
set_option maxRecDepth 100000 in
theorem mW_291 : Cond.code ⟨"SafeCode$Machine", "throwObject", "(II)V"⟩ prog_4_method_21_code 6 (none) ∈ lw_tbl.filter goodWord := mI_tables_1_8 (List.mem_of_getElem? (i := 93) rfl) rfl
theorem mD_292_0 : ck_t prog_4_method_23_code mT_292_0 = true := by decide +kernel
theorem mD_292 : ck_t prog_4_method_23_code mT_292 = true := mD_292_0
theorem mO_292 : mC_292.all (ck_c lw_tbl (mi_ev []) mi_Gs mi_mq mi_fr mi_lo 292 "SafeCode$Machine") = true := by decide +kernel
theorem mQ_292 : ck_q lw_tbl mi_cl mG_292 0 1 2 [264, 1909, 100] = true := by decide +kernel
set_option maxRecDepth 100000 in
theorem mW_292 : Cond.code ⟨"SafeCode$Machine", "typeOf", "(I)I"⟩ prog_4_method_23_code 2 (some .int) ∈ lw_tbl.filter goodWord := mI_tables_1_7 (List.mem_of_getElem? (i := 223) rfl) rfl
theorem mD_293_0 : ck_t prog_4_method_26_code mT_293_0 = true := by decide +kernel
theorem mD_293_1 : ck_t prog_4_method_26_code mT_293_1 = true := by decide +kernel
theorem mD_293_2 : ck_t prog_4_method_26_code mT_293_2 = true := by decide +kernel
theorem mD_293 : ck_t prog_4_method_26_code mT_293 = true := ck_t_app mD_293_0 (ck_t_app mD_293_1 mD_293_2)
theorem mO_293_0 : ((mC_293.drop 0).take 8).all (ck_c lw_tbl (mi_ev []) mi_Gs mi_mq mi_fr mi_lo 293 "SafeCode$Machine") = true := by decide +kernel
theorem mO_293_1 : ((mC_293.drop 8).take 8).all (ck_c lw_tbl (mi_ev []) mi_Gs mi_mq mi_fr mi_lo 293 "SafeCode$Machine") = true := by decide +kernel
theorem mO_293 : mC_293.all (ck_c lw_tbl (mi_ev []) mi_Gs mi_mq mi_fr mi_lo 293 "SafeCode$Machine") = true := by
  have e : mC_293 = (mC_293.drop 0).take 8 ++ (mC_293.drop 8).take 8 := by decide +kernel
  rw [e]
  simp only [List.all_append, mO_293_0, mO_293_1, Bool.and_true]
theorem mQ_293 : ck_q lw_tbl mi_cl mG_293 0 2 2 [264, 1986, 115] = true := by decide +kernel
set_option maxRecDepth 100000 in
theorem mW_293 : Cond.code ⟨"SafeCode$Machine", "useElement", "(II)I"⟩ prog_4_method_26_code 9 (some .int) ∈ lw_tbl.filter goodWord := mI_tables_1_8 (List.mem_of_getElem? (i := 60) rfl) rfl
