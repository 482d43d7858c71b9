/-! Checks of methods. -/
theorem mD_344_0 : ck_t prog_6_method_37_code mT_344_0 = true := by decide +kernel
theorem mD_344 : ck_t prog_6_method_37_code mT_344 = true := mD_344_0
theorem mO_344 : mC_344.all (ck_c lw_tbl (mi_ev []) mi_Gs mi_mq mi_fr mi_lo 344 "SafeCode$Proof") = true := by decide +kernel
theorem mQ_344 : ck_q lw_tbl mi_cl mG_344 0 0 4 [261, 1743, 84] = true := by decide +kernel
set_option maxRecDepth 100000 in
theorem mW_344 : Cond.code ⟨"SafeCode$Proof", "throwsSites", "()Z"⟩ prog_6_method_37_code 3 (some .boolean) ∈ lw_tbl.filter goodWord := mI_tables_1_7 (List.mem_of_getElem? (i := 57) rfl) rfl
theorem mD_345_0 : ck_t prog_6_method_6_code mT_345_0 = true := by decide +kernel
theorem mD_345_1 : ck_t prog_6_method_6_code mT_345_1 = true := by decide +kernel
theorem mD_345 : ck_t prog_6_method_6_code mT_345 = true := ck_t_app mD_345_0 mD_345_1
theorem mO_345 : mC_345.all (ck_c lw_tbl (mi_ev []) mi_Gs mi_mq mi_fr mi_lo 345 "SafeCode$Proof") = true := by decide +kernel
theorem mQ_345 : ck_q lw_tbl mi_cl mG_345 0 1 4 [261, 1792, 89] = true := by decide +kernel
set_option maxRecDepth 100000 in
theorem mW_345 : Cond.code ⟨"SafeCode$Proof", "usesChanged", "(I)Z"⟩ prog_6_method_6_code 3 (some .boolean) ∈ lw_tbl.filter goodWord := mI_tables_1_7 (List.mem_of_getElem? (i := 106) rfl) rfl
theorem mD_346_0 : ck_t prog_6_method_28_code mT_346_0 = true := by decide +kernel
theorem mD_346_1 : ck_t prog_6_method_28_code mT_346_1 = true := by decide +kernel
theorem mD_346_2 : ck_t prog_6_method_28_code mT_346_2 = true := by decide +kernel
theorem mD_346 : ck_t prog_6_method_28_code mT_346 = true := ck_t_app mD_346_0 (ck_t_app mD_346_1 mD_346_2)
theorem mO_346_0 : ((mC_346.drop 0).take 8).all (ck_c lw_tbl (mi_ev []) mi_Gs mi_mq mi_fr mi_lo 346 "SafeCode$Proof") = true := by decide +kernel
theorem mO_346_1 : ((mC_346.drop 8).take 8).all (ck_c lw_tbl (mi_ev []) mi_Gs mi_mq mi_fr mi_lo 346 "SafeCode$Proof") = true := by decide +kernel
theorem mO_346 : mC_346.all (ck_c lw_tbl (mi_ev []) mi_Gs mi_mq mi_fr mi_lo 346 "SafeCode$Proof") = true := by
  have e : mC_346 = (mC_346.drop 0).take 8 ++ (mC_346.drop 8).take 8 := by decide +kernel
  rw [e]
  simp only [List.all_append, mO_346_0, mO_346_1, Bool.and_true]
theorem mQ_346 : ck_q lw_tbl mi_cl mG_346 0 1 4 [261, 1670, 71] = true := by decide +kernel
set_option maxRecDepth 100000 in
theorem mW_346 : Cond.code ⟨"SafeCode$Proof", "usesElement", "(I)Z"⟩ prog_6_method_28_code 11 (some .boolean) ∈ lw_tbl.filter goodWord := mI_tables_1_6 (List.mem_of_getElem? (i := 224) rfl) rfl
theorem mD_347_0 : ck_t prog_6_method_33_code mT_347_0 = true := by decide +kernel
theorem mD_347_1 : ck_t prog_6_method_33_code mT_347_1 = true := by decide +kernel
theorem mD_347_2 : ck_t prog_6_method_33_code mT_347_2 = true := by decide +kernel
theorem mD_347 : ck_t prog_6_method_33_code mT_347 = true := ck_t_app mD_347_0 (ck_t_app mD_347_1 mD_347_2)
theorem mO_347 : mC_347.all (ck_c lw_tbl (mi_ev []) mi_Gs mi_mq mi_fr mi_lo 347 "SafeCode$Proof") = true := by decide +kernel
theorem mQ_347 : ck_q lw_tbl mi_cl mG_347 0 2 4 [261, 1730, 81] = true := by decide +kernel
set_option maxRecDepth 100000 in
theorem mW_347 : Cond.code ⟨"SafeCode$Proof", "usesField", "(II)Z"⟩ prog_6_method_33_code 11 (some .boolean) ∈ lw_tbl.filter goodWord := mI_tables_1_7 (List.mem_of_getElem? (i := 44) rfl) rfl
theorem mD_348_0 : ck_t prog_6_method_5_code mT_348_0 = true := by decide +kernel
theorem mD_348 : ck_t prog_6_method_5_code mT_348 = true := mD_348_0
theorem mO_348 : mC_348.all (ck_c lw_tbl (mi_ev []) mi_Gs mi_mq mi_fr mi_lo 348 "SafeCode$Proof") = true := by decide +kernel
theorem mQ_348 : ck_q lw_tbl mi_cl mG_348 0 0 4 [261, 1788, 88] = true := by decide +kernel
set_option maxRecDepth 100000 in
theorem mW_348 : Cond.code ⟨"SafeCode$Proof", "wakeUsers", "()V"⟩ prog_6_method_5_code 2 (none) ∈ lw_tbl.filter goodWord := mI_tables_1_7 (List.mem_of_getElem? (i := 102) rfl) rfl
