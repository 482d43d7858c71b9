/-! Checks of methods. -/
theorem mD_323_0 : ck_t prog_6_method_31_code mT_323_0 = true := by decide +kernel
theorem mD_323 : ck_t prog_6_method_31_code mT_323 = true := mD_323_0
theorem mO_323 : mC_323.all (ck_c lw_tbl (mi_ev []) mi_Gs mi_mq mi_fr mi_lo 323 "SafeCode$Proof") = true := by decide +kernel
theorem mQ_323 : ck_q lw_tbl mi_cl mG_323 0 3 4 [261, 1690, 75] = true := by decide +kernel
set_option maxRecDepth 100000 in
theorem mW_323 : Cond.code ⟨"SafeCode$Proof", "leavesValue", "(IJZ)Z"⟩ prog_6_method_31_code 5 (some .boolean) ∈ lw_tbl.filter goodWord := mI_tables_1_7 (List.mem_of_getElem? (i := 4) rfl) rfl
theorem mD_324_0 : ck_t prog_6_method_26_code mT_324_0 = true := by decide +kernel
theorem mD_324 : ck_t prog_6_method_26_code mT_324 = true := mD_324_0
theorem mO_324 : mC_324.all (ck_c lw_tbl (mi_ev []) mi_Gs mi_mq mi_fr mi_lo 324 "SafeCode$Proof") = true := by decide +kernel
theorem mQ_324 : ck_q lw_tbl mi_cl mG_324 0 1 4 [261, 1674, 72] = true := by decide +kernel
set_option maxRecDepth 100000 in
theorem mW_324 : Cond.code ⟨"SafeCode$Proof", "lengthsOf", "(J)J"⟩ prog_6_method_26_code 6 (some .long) ∈ lw_tbl.filter goodWord := mI_tables_1_6 (List.mem_of_getElem? (i := 228) rfl) rfl
theorem mD_325_0 : ck_t prog_6_method_8_code mT_325_0 = true := by decide +kernel
theorem mD_325_1 : ck_t prog_6_method_8_code mT_325_1 = true := by decide +kernel
theorem mD_325_2 : ck_t prog_6_method_8_code mT_325_2 = true := by decide +kernel
theorem mD_325_3 : ck_t prog_6_method_8_code mT_325_3 = true := by decide +kernel
theorem mD_325_4 : ck_t prog_6_method_8_code mT_325_4 = true := by decide +kernel
theorem mD_325 : ck_t prog_6_method_8_code mT_325 = true := ck_t_app mD_325_0 (ck_t_app mD_325_1 (ck_t_app mD_325_2 (ck_t_app mD_325_3 mD_325_4)))
theorem mO_325_0 : ((mC_325.drop 0).take 8).all (ck_c lw_tbl (mi_ev []) mi_Gs mi_mq mi_fr mi_lo 325 "SafeCode$Proof") = true := by decide +kernel
theorem mO_325_1 : ((mC_325.drop 8).take 8).all (ck_c lw_tbl (mi_ev []) mi_Gs mi_mq mi_fr mi_lo 325 "SafeCode$Proof") = true := by decide +kernel
theorem mO_325 : mC_325.all (ck_c lw_tbl (mi_ev []) mi_Gs mi_mq mi_fr mi_lo 325 "SafeCode$Proof") = true := by
  have e : mC_325 = (mC_325.drop 0).take 8 ++ (mC_325.drop 8).take 8 := by decide +kernel
  rw [e]
  simp only [List.all_append, mO_325_0, mO_325_1, Bool.and_true]
theorem mQ_325 : ck_q lw_tbl mi_cl mG_325 0 1 4 [261, 1469, 50] = true := by decide +kernel
set_option maxRecDepth 100000 in
theorem mW_325 : Cond.code ⟨"SafeCode$Proof", "look", "(I)V"⟩ prog_6_method_8_code 4 (none) ∈ lw_tbl.filter goodWord := mI_tables_1_6 (List.mem_of_getElem? (i := 23) rfl) rfl
theorem mD_326_0 : ck_t prog_6_method_16_code mT_326_0 = true := by decide +kernel
theorem mD_326 : ck_t prog_6_method_16_code mT_326 = true := mD_326_0
theorem mO_326 : mC_326.all (ck_c lw_tbl (mi_ev []) mi_Gs mi_mq mi_fr mi_lo 326 "SafeCode$Proof") = true := by decide +kernel
theorem mQ_326 : ck_q lw_tbl mi_cl mG_326 0 3 4 [261, 1585, 58] = true := by decide +kernel
set_option maxRecDepth 100000 in
theorem mW_326 : Cond.code ⟨"SafeCode$Proof", "lookAtNullWay", "(IIZ)V"⟩ prog_6_method_16_code 7 (none) ∈ lw_tbl.filter goodWord := mI_tables_1_6 (List.mem_of_getElem? (i := 139) rfl) rfl
theorem mD_327_0 : ck_t prog_6_method_17_code mT_327_0 = true := by decide +kernel
theorem mD_327 : ck_t prog_6_method_17_code mT_327 = true := mD_327_0
theorem mO_327 : mC_327.all (ck_c lw_tbl (mi_ev []) mi_Gs mi_mq mi_fr mi_lo 327 "SafeCode$Proof") = true := by decide +kernel
theorem mQ_327 : ck_q lw_tbl mi_cl mG_327 0 3 4 [261, 1595, 59] = true := by decide +kernel
set_option maxRecDepth 100000 in
theorem mW_327 : Cond.code ⟨"SafeCode$Proof", "lookAtSameWay", "(IIZ)V"⟩ prog_6_method_17_code 8 (none) ∈ lw_tbl.filter goodWord := mI_tables_1_6 (List.mem_of_getElem? (i := 149) rfl) rfl
