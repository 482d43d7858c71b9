/-! Checks of methods. -/
theorem mD_277_0 : ck_t prog_4_method_17_code mT_277_0 = true := by decide +kernel
theorem mD_277 : ck_t prog_4_method_17_code mT_277 = true := mD_277_0
theorem mO_277 : mC_277.all (ck_c lw_tbl (mi_ev []) mi_Gs mi_mq mi_fr mi_lo 277 "SafeCode$Machine") = true := by decide +kernel
theorem mQ_277 : ck_q lw_tbl mi_cl mG_277 0 2 2 [264, 1974, 113] = true := by decide +kernel
set_option maxRecDepth 100000 in
theorem mW_277 : Cond.code ⟨"SafeCode$Machine", "jump", "(II)I"⟩ prog_4_method_17_code 4 (some .int) ∈ lw_tbl.filter goodWord := mI_tables_1_8 (List.mem_of_getElem? (i := 48) rfl) rfl
theorem mD_278_0 : ck_t prog_4_method_13_code mT_278_0 = true := by decide +kernel
theorem mD_278 : ck_t prog_4_method_13_code mT_278 = true := mD_278_0
theorem mO_278 : mC_278.all (ck_c lw_tbl (mi_ev []) mi_Gs mi_mq mi_fr mi_lo 278 "SafeCode$Machine") = true := by decide +kernel
theorem mQ_278 : ck_q lw_tbl mi_cl mG_278 0 2 2 [264, 1959, 110] = true := by decide +kernel
set_option maxRecDepth 100000 in
theorem mW_278 : Cond.code ⟨"SafeCode$Machine", "leave", "(IJ)I"⟩ prog_4_method_13_code 4 (some .int) ∈ lw_tbl.filter goodWord := mI_tables_1_8 (List.mem_of_getElem? (i := 33) rfl) rfl
theorem mD_279_0 : ck_t prog_4_method_32_code mT_279_0 = true := by decide +kernel
theorem mD_279 : ck_t prog_4_method_32_code mT_279 = true := mD_279_0
theorem mO_279 : mC_279.all (ck_c lw_tbl (mi_ev []) mi_Gs mi_mq mi_fr mi_lo 279 "SafeCode$Machine") = true := by decide +kernel
theorem mQ_279 : ck_q lw_tbl mi_cl mG_279 0 2 2 [264, 2007, 119] = true := by decide +kernel
set_option maxRecDepth 100000 in
theorem mW_279 : Cond.code ⟨"SafeCode$Machine", "leaveBody", "(II)I"⟩ prog_4_method_32_code 5 (some .int) ∈ lw_tbl.filter goodWord := mI_tables_1_8 (List.mem_of_getElem? (i := 81) rfl) rfl
theorem mD_280_0 : ck_t prog_4_method_36_code mT_280_0 = true := by decide +kernel
theorem mD_280 : ck_t prog_4_method_36_code mT_280 = true := mD_280_0
theorem mO_280 : mC_280.all (ck_c lw_tbl (mi_ev []) mi_Gs mi_mq mi_fr mi_lo 280 "SafeCode$Machine") = true := by decide +kernel
theorem mQ_280 : ck_q lw_tbl mi_cl mG_280 0 1 2 [264, 1904, 99] = true := by decide +kernel
set_option maxRecDepth 100000 in
theorem mW_280 : Cond.code ⟨"SafeCode$Machine", "lengthOf", "(J)I"⟩ prog_4_method_36_code 5 (some .int) ∈ lw_tbl.filter goodWord := mI_tables_1_7 (List.mem_of_getElem? (i := 218) rfl) rfl
theorem mD_281_0 : ck_t prog_4_method_19_code mT_281_0 = true := by decide +kernel
theorem mD_281 : ck_t prog_4_method_19_code mT_281 = true := mD_281_0
theorem mO_281 : mC_281.all (ck_c lw_tbl (mi_ev []) mi_Gs mi_mq mi_fr mi_lo 281 "SafeCode$Machine") = true := by decide +kernel
theorem mQ_281 : ck_q lw_tbl mi_cl mG_281 0 3 2 [264, 1967, 112] = true := by decide +kernel
set_option maxRecDepth 100000 in
theorem mW_281 : Cond.code ⟨"SafeCode$Machine", "make", "(III)I"⟩ prog_4_method_19_code 6 (some .int) ∈ lw_tbl.filter goodWord := mI_tables_1_8 (List.mem_of_getElem? (i := 41) rfl) rfl
theorem mD_282_0 : ck_t prog_4_method_25_code mT_282_0 = true := by decide +kernel
theorem mD_282 : ck_t prog_4_method_25_code mT_282 = true := mD_282_0
theorem mO_282 : mC_282.all (ck_c lw_tbl (mi_ev []) mi_Gs mi_mq mi_fr mi_lo 282 "SafeCode$Machine") = true := by decide +kernel
theorem mQ_282 : ck_q lw_tbl mi_cl mG_282 0 3 2 [264, 1982, 114] = true := by decide +kernel
set_option maxRecDepth 100000 in
theorem mW_282 : Cond.code ⟨"SafeCode$Machine", "makeObject", "(III)I"⟩ prog_4_method_25_code 5 (some .int) ∈ lw_tbl.filter goodWord := mI_tables_1_8 (List.mem_of_getElem? (i := 56) rfl) rfl
