/-! Checks of methods. -/
theorem mD_22_0 : ck_t prog_2_method_8_code mT_22_0 = true := by decide +kernel
theorem mD_22 : ck_t prog_2_method_8_code mT_22 = true := mD_22_0
theorem mO_22 : mC_22.all (ck_c lw_tbl (mi_ev []) mi_Gs mi_mq mi_fr mi_lo 22 "SafeCode$Bodies") = true := by decide +kernel
theorem mQ_22 : ck_q lw_tbl mi_cl mG_22 0 1 0 [257, 1257, 1258] = true := by decide +kernel
set_option maxRecDepth 100000 in
theorem mW_22 : Cond.code ⟨"SafeCode$Bodies", "fillRuns", "(LSafeCode$Classes;)V"⟩ prog_2_method_8_code 4 (none) ∈ lw_tbl.filter goodWord := mI_tables_1_5 (List.mem_of_getElem? (i := 52) rfl) rfl
theorem mD_23_0 : ck_t prog_2_method_4_code mT_23_0 = true := by decide +kernel
theorem mD_23 : ck_t prog_2_method_4_code mT_23 = true := mD_23_0
theorem mO_23 : mC_23.all (ck_c lw_tbl (mi_ev []) mi_Gs mi_mq mi_fr mi_lo 23 "SafeCode$Bodies") = true := by decide +kernel
theorem mQ_23 : ck_q lw_tbl mi_cl mG_23 0 3 0 [257, 1183, 1184] = true := by decide +kernel
set_option maxRecDepth 100000 in
theorem mW_23 : Cond.code ⟨"SafeCode$Bodies", "finish", "(III)V"⟩ prog_2_method_4_code 4 (none) ∈ lw_tbl.filter goodWord := mI_tables_1_4 (List.mem_of_getElem? (i := 218) rfl) rfl
theorem mD_24_0 : ck_t prog_2_method_1_code mT_24_0 = true := by decide +kernel
theorem mD_24 : ck_t prog_2_method_1_code mT_24 = true := mD_24_0
theorem mO_24 : mC_24.all (ck_c lw_tbl (mi_ev []) mi_Gs mi_mq mi_fr mi_lo 24 "SafeCode$Bodies") = true := by decide +kernel
theorem mQ_24 : ck_q lw_tbl mi_cl mG_24 1 0 0 [257, 494] = true := by decide +kernel
set_option maxRecDepth 100000 in
theorem mW_24 : Cond.code ⟨"SafeCode$Bodies", "<init>", "()V"⟩ prog_2_method_1_code 1 (none) ∈ lw_tbl.filter goodWord := mI_tables_1_2 (List.mem_of_getElem? (i := 8) rfl) rfl
theorem mD_25_0 : ck_t prog_2_method_11_code mT_25_0 = true := by decide +kernel
theorem mD_25 : ck_t prog_2_method_11_code mT_25 = true := mD_25_0
theorem mO_25 : mC_25.all (ck_c lw_tbl (mi_ev []) mi_Gs mi_mq mi_fr mi_lo 25 "SafeCode$Bodies") = true := by decide +kernel
theorem mQ_25 : ck_q lw_tbl mi_cl mG_25 0 1 0 [257, 1271, 1272] = true := by decide +kernel
set_option maxRecDepth 100000 in
theorem mW_25 : Cond.code ⟨"SafeCode$Bodies", "mainOf", "(I)I"⟩ prog_2_method_11_code 3 (some .int) ∈ lw_tbl.filter goodWord := mI_tables_1_5 (List.mem_of_getElem? (i := 66) rfl) rfl
theorem mD_26_0 : ck_t prog_2_method_6_code mT_26_0 = true := by decide +kernel
theorem mD_26 : ck_t prog_2_method_6_code mT_26 = true := mD_26_0
theorem mO_26 : mC_26.all (ck_c lw_tbl (mi_ev []) mi_Gs mi_mq mi_fr mi_lo 26 "SafeCode$Bodies") = true := by decide +kernel
theorem mQ_26 : ck_q lw_tbl mi_cl mG_26 0 1 0 [257, 1192, 1193] = true := by decide +kernel
set_option maxRecDepth 100000 in
theorem mW_26 : Cond.code ⟨"SafeCode$Bodies", "mayReplace", "(I)Z"⟩ prog_2_method_6_code 3 (some .boolean) ∈ lw_tbl.filter goodWord := mI_tables_1_4 (List.mem_of_getElem? (i := 227) rfl) rfl
theorem mD_27_0 : ck_t prog_2_method_7_code mT_27_0 = true := by decide +kernel
theorem mD_27 : ck_t prog_2_method_7_code mT_27 = true := mD_27_0
theorem mO_27 : mC_27.all (ck_c lw_tbl (mi_ev []) mi_Gs mi_mq mi_fr mi_lo 27 "SafeCode$Bodies") = true := by decide +kernel
theorem mQ_27 : ck_q lw_tbl mi_cl mG_27 0 3 0 [257, 1187, 1188] = true := by decide +kernel
set_option maxRecDepth 100000 in
theorem mW_27 : Cond.code ⟨"SafeCode$Bodies", "nearest", "(LSafeCode$Classes;II)I"⟩ prog_2_method_7_code 6 (some .int) ∈ lw_tbl.filter goodWord := mI_tables_1_4 (List.mem_of_getElem? (i := 222) rfl) rfl
