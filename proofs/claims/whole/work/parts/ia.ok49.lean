/-! Checks of methods. -/
theorem mD_271_0 : ck_t prog_4_method_7_code mT_271_0 = true := by decide +kernel
theorem mD_271 : ck_t prog_4_method_7_code mT_271 = true := mD_271_0
theorem mO_271 : mC_271.all (ck_c lw_tbl (mi_ev []) mi_Gs mi_mq mi_fr mi_lo 271 "SafeCode$Machine") = true := by decide +kernel
theorem mQ_271 : ck_q lw_tbl mi_cl mG_271 0 1 2 [264, 1935, 105] = true := by decide +kernel
set_option maxRecDepth 100000 in
theorem mW_271 : Cond.code ⟨"SafeCode$Machine", "fromTop", "(I)I"⟩ prog_4_method_7_code 2 (some .int) ∈ lw_tbl.filter goodWord := mI_tables_1_8 (List.mem_of_getElem? (i := 9) rfl) rfl
theorem mD_272_0 : ck_t prog_4_method_18_code mT_272_0 = true := by decide +kernel
theorem mD_272 : ck_t prog_4_method_18_code mT_272 = true := mD_272_0
theorem mO_272 : mC_272.all (ck_c lw_tbl (mi_ev []) mi_Gs mi_mq mi_fr mi_lo 272 "SafeCode$Machine") = true := by decide +kernel
theorem mQ_272 : ck_q lw_tbl mi_cl mG_272 3 3 0 [264, 1977] = true := by decide +kernel
set_option maxRecDepth 100000 in
theorem mW_272 : Cond.code ⟨"SafeCode$Machine", "holds", "(III)Z"⟩ prog_4_method_18_code 3 (some .boolean) ∈ lw_tbl.filter goodWord := mI_tables_1_8 (List.mem_of_getElem? (i := 51) rfl) rfl
theorem mD_273_0 : ck_t prog_4_method_1_code mT_273_0 = true := by decide +kernel
theorem mD_273 : ck_t prog_4_method_1_code mT_273 = true := mD_273_0
theorem mO_273 : mC_273.all (ck_c lw_tbl (mi_ev []) mi_Gs mi_mq mi_fr mi_lo 273 "SafeCode$Machine") = true := by decide +kernel
theorem mQ_273 : ck_q lw_tbl mi_cl mG_273 1 3 0 [264, 897] = true := by decide +kernel
set_option maxRecDepth 100000 in
theorem mW_273 : Cond.code ⟨"SafeCode$Machine", "<init>", "(LSafeCode$Program;LSafeCode$Proof;[I)V"⟩ prog_4_method_1_code 4 (none) ∈ lw_tbl.filter goodWord := mI_tables_1_3 (List.mem_of_getElem? (i := 171) rfl) rfl
theorem mD_274_0 : ck_t prog_4_method_11_code mT_274_0 = true := by decide +kernel
theorem mD_274 : ck_t prog_4_method_11_code mT_274 = true := mD_274_0
theorem mO_274 : mC_274.all (ck_c lw_tbl (mi_ev []) mi_Gs mi_mq mi_fr mi_lo 274 "SafeCode$Machine") = true := by decide +kernel
theorem mQ_274 : ck_q lw_tbl mi_cl mG_274 3 1 0 [264, 1925] = true := by decide +kernel
set_option maxRecDepth 100000 in
theorem mW_274 : Cond.code ⟨"SafeCode$Machine", "intCell", "(I)J"⟩ prog_4_method_11_code 1 (some .long) ∈ lw_tbl.filter goodWord := mI_tables_1_7 (List.mem_of_getElem? (i := 239) rfl) rfl
theorem mD_275_0 : ck_t prog_4_method_33_code mT_275_0 = true := by decide +kernel
theorem mD_275 : ck_t prog_4_method_33_code mT_275 = true := mD_275_0
theorem mO_275 : mC_275.all (ck_c lw_tbl (mi_ev []) mi_Gs mi_mq mi_fr mi_lo 275 "SafeCode$Machine") = true := by decide +kernel
theorem mQ_275 : ck_q lw_tbl mi_cl mG_275 0 0 2 [264, 1885, 96] = true := by decide +kernel
set_option maxRecDepth 100000 in
theorem mW_275 : Cond.code ⟨"SafeCode$Machine", "isAsProved", "()Z"⟩ prog_4_method_33_code 4 (some .boolean) ∈ lw_tbl.filter goodWord := mI_tables_1_7 (List.mem_of_getElem? (i := 199) rfl) rfl
theorem mD_276_0 : ck_t prog_4_method_34_code mT_276_0 = true := by decide +kernel
theorem mD_276_1 : ck_t prog_4_method_34_code mT_276_1 = true := by decide +kernel
theorem mD_276_2 : ck_t prog_4_method_34_code mT_276_2 = true := by decide +kernel
theorem mD_276_3 : ck_t prog_4_method_34_code mT_276_3 = true := by decide +kernel
theorem mD_276 : ck_t prog_4_method_34_code mT_276 = true := ck_t_app mD_276_0 (ck_t_app mD_276_1 (ck_t_app mD_276_2 mD_276_3))
theorem mO_276 : mC_276.all (ck_c lw_tbl (mi_ev []) mi_Gs mi_mq mi_fr mi_lo 276 "SafeCode$Machine") = true := by decide +kernel
theorem mQ_276 : ck_q lw_tbl mi_cl mG_276 0 2 2 [264, 1889, 97] = true := by decide +kernel
set_option maxRecDepth 100000 in
theorem mW_276 : Cond.code ⟨"SafeCode$Machine", "isSlotAsProved", "(IJ)Z"⟩ prog_4_method_34_code 13 (some .boolean) ∈ lw_tbl.filter goodWord := mI_tables_1_7 (List.mem_of_getElem? (i := 203) rfl) rfl
