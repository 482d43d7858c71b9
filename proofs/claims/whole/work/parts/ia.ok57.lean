/-! Checks of methods. -/
theorem mD_317_0 : ck_t prog_6_method_36_code mT_317_0 = true := by decide +kernel
theorem mD_317 : ck_t prog_6_method_36_code mT_317 = true := mD_317_0
theorem mO_317 : mC_317.all (ck_c lw_tbl (mi_ev []) mi_Gs mi_mq mi_fr mi_lo 317 "SafeCode$Proof") = true := by decide +kernel
theorem mQ_317 : ck_q lw_tbl mi_cl mG_317 0 2 4 [261, 1747, 85] = true := by decide +kernel
set_option maxRecDepth 100000 in
theorem mW_317 : Cond.code ⟨"SafeCode$Proof", "endsBody", "(II)Z"⟩ prog_6_method_36_code 5 (some .boolean) ∈ lw_tbl.filter goodWord := mI_tables_1_7 (List.mem_of_getElem? (i := 61) rfl) rfl
theorem mD_318_0 : ck_t prog_6_method_39_code mT_318_0 = true := by decide +kernel
theorem mD_318 : ck_t prog_6_method_39_code mT_318 = true := mD_318_0
theorem mO_318 : mC_318.all (ck_c lw_tbl (mi_ev []) mi_Gs mi_mq mi_fr mi_lo 318 "SafeCode$Proof") = true := by decide +kernel
theorem mQ_318 : ck_q lw_tbl mi_cl mG_318 0 4 4 [261, 1604, 61] = true := by decide +kernel
set_option maxRecDepth 100000 in
theorem mW_318 : Cond.code ⟨"SafeCode$Proof", "enterBody", "(IIJZ)V"⟩ prog_6_method_39_code 7 (none) ∈ lw_tbl.filter goodWord := mI_tables_1_6 (List.mem_of_getElem? (i := 158) rfl) rfl
theorem mD_319_0 : ck_t prog_6_method_3_code mT_319_0 = true := by decide +kernel
theorem mD_319_1 : ck_t prog_6_method_3_code mT_319_1 = true := by decide +kernel
theorem mD_319_2 : ck_t prog_6_method_3_code mT_319_2 = true := by decide +kernel
theorem mD_319 : ck_t prog_6_method_3_code mT_319 = true := ck_t_app mD_319_0 (ck_t_app mD_319_1 mD_319_2)
theorem mO_319 : mC_319.all (ck_c lw_tbl (mi_ev []) mi_Gs mi_mq mi_fr mi_lo 319 "SafeCode$Proof") = true := by decide +kernel
theorem mQ_319 : ck_q lw_tbl mi_cl mG_319 0 0 4 [261, 1415, 47] = true := by decide +kernel
set_option maxRecDepth 100000 in
theorem mW_319 : Cond.code ⟨"SafeCode$Proof", "findSuiting", "()V"⟩ prog_6_method_3_code 2 (none) ∈ lw_tbl.filter goodWord := mI_tables_1_5 (List.mem_of_getElem? (i := 209) rfl) rfl
theorem mD_320_0 : ck_t prog_6_method_10_code mT_320_0 = true := by decide +kernel
theorem mD_320 : ck_t prog_6_method_10_code mT_320 = true := mD_320_0
theorem mO_320 : mC_320.all (ck_c lw_tbl (mi_ev []) mi_Gs mi_mq mi_fr mi_lo 320 "SafeCode$Proof") = true := by decide +kernel
theorem mQ_320 : ck_q lw_tbl mi_cl mG_320 0 1 4 [261, 1574, 57] = true := by decide +kernel
set_option maxRecDepth 100000 in
theorem mW_320 : Cond.code ⟨"SafeCode$Proof", "goOn", "(I)V"⟩ prog_6_method_10_code 2 (none) ∈ lw_tbl.filter goodWord := mI_tables_1_6 (List.mem_of_getElem? (i := 128) rfl) rfl
theorem mD_321_0 : ck_t prog_6_method_9_code mT_321_0 = true := by decide +kernel
theorem mD_321_1 : ck_t prog_6_method_9_code mT_321_1 = true := by decide +kernel
theorem mD_321 : ck_t prog_6_method_9_code mT_321 = true := ck_t_app mD_321_0 mD_321_1
theorem mO_321_0 : ((mC_321.drop 0).take 8).all (ck_c lw_tbl (mi_ev []) mi_Gs mi_mq mi_fr mi_lo 321 "SafeCode$Proof") = true := by decide +kernel
theorem mO_321_1 : ((mC_321.drop 8).take 8).all (ck_c lw_tbl (mi_ev []) mi_Gs mi_mq mi_fr mi_lo 321 "SafeCode$Proof") = true := by decide +kernel
theorem mO_321 : mC_321.all (ck_c lw_tbl (mi_ev []) mi_Gs mi_mq mi_fr mi_lo 321 "SafeCode$Proof") = true := by
  have e : mC_321 = (mC_321.drop 0).take 8 ++ (mC_321.drop 8).take 8 := by decide +kernel
  rw [e]
  simp only [List.all_append, mO_321_0, mO_321_1, Bool.and_true]
theorem mQ_321 : ck_q lw_tbl mi_cl mG_321 0 2 4 [261, 1703, 77] = true := by decide +kernel
set_option maxRecDepth 100000 in
theorem mW_321 : Cond.code ⟨"SafeCode$Proof", "goesOn", "(II)Z"⟩ prog_6_method_9_code 3 (some .boolean) ∈ lw_tbl.filter goodWord := mI_tables_1_7 (List.mem_of_getElem? (i := 17) rfl) rfl
theorem mD_322_0 : ck_t prog_6_method_1_code mT_322_0 = true := by decide +kernel
theorem mD_322 : ck_t prog_6_method_1_code mT_322 = true := mD_322_0
theorem mO_322 : mC_322.all (ck_c lw_tbl (mi_ev []) mi_Gs mi_mq mi_fr mi_lo 322 "SafeCode$Proof") = true := by decide +kernel
theorem mQ_322 : ck_q lw_tbl mi_cl mG_322 1 1 0 [261, 754] = true := by decide +kernel
set_option maxRecDepth 100000 in
theorem mW_322 : Cond.code ⟨"SafeCode$Proof", "<init>", "(LSafeCode$Program;)V"⟩ prog_6_method_1_code 2 (none) ∈ lw_tbl.filter goodWord := mI_tables_1_3 (List.mem_of_getElem? (i := 28) rfl) rfl
