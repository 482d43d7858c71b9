/-! Checks of methods. -/
theorem mD_328_0 : ck_t prog_6_method_18_code mT_328_0 = true := by decide +kernel
theorem mD_328_1 : ck_t prog_6_method_18_code mT_328_1 = true := by decide +kernel
theorem mD_328 : ck_t prog_6_method_18_code mT_328 = true := ck_t_app mD_328_0 mD_328_1
theorem mO_328 : mC_328.all (ck_c lw_tbl (mi_ev []) mi_Gs mi_mq mi_fr mi_lo 328 "SafeCode$Proof") = true := by decide +kernel
theorem mQ_328 : ck_q lw_tbl mi_cl mG_328 0 3 4 [261, 1482, 52] = true := by decide +kernel
set_option maxRecDepth 100000 in
theorem mW_328 : Cond.code ⟨"SafeCode$Proof", "lookAtWay", "(III)V"⟩ prog_6_method_18_code 7 (none) ∈ lw_tbl.filter goodWord := mI_tables_1_6 (List.mem_of_getElem? (i := 36) rfl) rfl
theorem mD_329_0 : ck_t prog_6_method_21_code mT_329_0 = true := by decide +kernel
theorem mD_329 : ck_t prog_6_method_21_code mT_329 = true := mD_329_0
theorem mO_329 : mC_329.all (ck_c lw_tbl (mi_ev []) mi_Gs mi_mq mi_fr mi_lo 329 "SafeCode$Proof") = true := by decide +kernel
theorem mQ_329 : ck_q lw_tbl mi_cl mG_329 0 2 4 [261, 1517, 54] = true := by decide +kernel
set_option maxRecDepth 100000 in
theorem mW_329 : Cond.code ⟨"SafeCode$Proof", "makeDifferent", "(II)Z"⟩ prog_6_method_21_code 7 (some .boolean) ∈ lw_tbl.filter goodWord := mI_tables_1_6 (List.mem_of_getElem? (i := 71) rfl) rfl
theorem mD_330_0 : ck_t prog_6_method_20_code mT_330_0 = true := by decide +kernel
theorem mD_330 : ck_t prog_6_method_20_code mT_330 = true := mD_330_0
theorem mO_330 : mC_330.all (ck_c lw_tbl (mi_ev []) mi_Gs mi_mq mi_fr mi_lo 330 "SafeCode$Proof") = true := by decide +kernel
theorem mQ_330 : ck_q lw_tbl mi_cl mG_330 0 2 4 [261, 1490, 53] = true := by decide +kernel
set_option maxRecDepth 100000 in
theorem mW_330 : Cond.code ⟨"SafeCode$Proof", "makeEqual", "(II)Z"⟩ prog_6_method_20_code 7 (some .boolean) ∈ lw_tbl.filter goodWord := mI_tables_1_6 (List.mem_of_getElem? (i := 44) rfl) rfl
theorem mD_331_0 : ck_t prog_6_method_22_code mT_331_0 = true := by decide +kernel
theorem mD_331_1 : ck_t prog_6_method_22_code mT_331_1 = true := by decide +kernel
theorem mD_331_2 : ck_t prog_6_method_22_code mT_331_2 = true := by decide +kernel
theorem mD_331 : ck_t prog_6_method_22_code mT_331 = true := ck_t_app mD_331_0 (ck_t_app mD_331_1 mD_331_2)
theorem mO_331 : mC_331.all (ck_c lw_tbl (mi_ev []) mi_Gs mi_mq mi_fr mi_lo 331 "SafeCode$Proof") = true := by decide +kernel
theorem mQ_331 : ck_q lw_tbl mi_cl mG_331 0 3 4 [261, 1535, 55] = true := by decide +kernel
set_option maxRecDepth 100000 in
theorem mW_331 : Cond.code ⟨"SafeCode$Proof", "makeOrdered", "(IIZ)Z"⟩ prog_6_method_22_code 13 (some .boolean) ∈ lw_tbl.filter goodWord := mI_tables_1_6 (List.mem_of_getElem? (i := 89) rfl) rfl
theorem mD_332_0 : ck_t prog_6_method_24_code mT_332_0 = true := by decide +kernel
theorem mD_332_1 : ck_t prog_6_method_24_code mT_332_1 = true := by decide +kernel
theorem mD_332_2 : ck_t prog_6_method_24_code mT_332_2 = true := by decide +kernel
theorem mD_332 : ck_t prog_6_method_24_code mT_332 = true := ck_t_app mD_332_0 (ck_t_app mD_332_1 mD_332_2)
theorem mO_332_0 : ((mC_332.drop 0).take 8).all (ck_c lw_tbl (mi_ev []) mi_Gs mi_mq mi_fr mi_lo 332 "SafeCode$Proof") = true := by decide +kernel
theorem mO_332_1 : ((mC_332.drop 8).take 8).all (ck_c lw_tbl (mi_ev []) mi_Gs mi_mq mi_fr mi_lo 332 "SafeCode$Proof") = true := by decide +kernel
theorem mO_332 : mC_332.all (ck_c lw_tbl (mi_ev []) mi_Gs mi_mq mi_fr mi_lo 332 "SafeCode$Proof") = true := by
  have e : mC_332 = (mC_332.drop 0).take 8 ++ (mC_332.drop 8).take 8 := by decide +kernel
  rw [e]
  simp only [List.all_append, mO_332_0, mO_332_1, Bool.and_true]
theorem mQ_332 : ck_q lw_tbl mi_cl mG_332 0 1 4 [261, 1716, 79] = true := by decide +kernel
set_option maxRecDepth 100000 in
theorem mW_332 : Cond.code ⟨"SafeCode$Proof", "makesArray", "(I)Z"⟩ prog_6_method_24_code 8 (some .boolean) ∈ lw_tbl.filter goodWord := mI_tables_1_7 (List.mem_of_getElem? (i := 30) rfl) rfl
