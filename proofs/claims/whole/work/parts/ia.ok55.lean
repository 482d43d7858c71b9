/-! Checks of methods. -/
theorem mD_306_0 : ck_t prog_5_method_10_code mT_306_0 = true := by decide +kernel
theorem mD_306 : ck_t prog_5_method_10_code mT_306 = true := mD_306_0
theorem mO_306 : mC_306.all (ck_c lw_tbl (mi_ev []) mi_Gs mi_mq mi_fr mi_lo 306 "SafeCode$Program") = true := by decide +kernel
theorem mQ_306 : ck_q lw_tbl mi_cl mG_306 0 1 3 [255, 1292, 1293] = true := by decide +kernel
set_option maxRecDepth 100000 in
theorem mW_306 : Cond.code ⟨"SafeCode$Program", "leaves", "(I)I"⟩ prog_5_method_10_code 3 (some .int) ∈ lw_tbl.filter goodWord := mI_tables_1_5 (List.mem_of_getElem? (i := 87) rfl) rfl
theorem mD_307_0 : ck_t prog_5_method_13_code mT_307_0 = true := by decide +kernel
theorem mD_307 : ck_t prog_5_method_13_code mT_307 = true := mD_307_0
theorem mO_307 : mC_307.all (ck_c lw_tbl (mi_ev []) mi_Gs mi_mq mi_fr mi_lo 307 "SafeCode$Program") = true := by decide +kernel
theorem mQ_307 : ck_q lw_tbl mi_cl mG_307 0 1 3 [255, 1419, 1420] = true := by decide +kernel
set_option maxRecDepth 100000 in
theorem mW_307 : Cond.code ⟨"SafeCode$Program", "sitesBelow", "(I)J"⟩ prog_5_method_13_code 5 (some .long) ∈ lw_tbl.filter goodWord := mI_tables_1_5 (List.mem_of_getElem? (i := 214) rfl) rfl
theorem mD_308_0 : ck_t prog_5_method_9_code mT_308_0 = true := by decide +kernel
theorem mD_308 : ck_t prog_5_method_9_code mT_308 = true := mD_308_0
theorem mO_308 : mC_308.all (ck_c lw_tbl (mi_ev []) mi_Gs mi_mq mi_fr mi_lo 308 "SafeCode$Program") = true := by decide +kernel
theorem mQ_308 : ck_q lw_tbl mi_cl mG_308 0 1 3 [255, 1298, 1299] = true := by decide +kernel
set_option maxRecDepth 100000 in
theorem mW_308 : Cond.code ⟨"SafeCode$Program", "takes", "(I)I"⟩ prog_5_method_9_code 3 (some .int) ∈ lw_tbl.filter goodWord := mI_tables_1_5 (List.mem_of_getElem? (i := 93) rfl) rfl
theorem mD_309_0 : ck_t prog_5_method_11_code mT_309_0 = true := by decide +kernel
theorem mD_309 : ck_t prog_5_method_11_code mT_309 = true := mD_309_0
theorem mO_309 : mC_309.all (ck_c lw_tbl (mi_ev []) mi_Gs mi_mq mi_fr mi_lo 309 "SafeCode$Program") = true := by decide +kernel
theorem mQ_309 : ck_q lw_tbl mi_cl mG_309 0 1 3 [255, 1312, 1313] = true := by decide +kernel
set_option maxRecDepth 100000 in
theorem mW_309 : Cond.code ⟨"SafeCode$Program", "target", "(I)I"⟩ prog_5_method_11_code 2 (some .int) ∈ lw_tbl.filter goodWord := mI_tables_1_5 (List.mem_of_getElem? (i := 107) rfl) rfl
theorem mD_310_0 : ck_t prog_6_method_4_code mT_310_0 = true := by decide +kernel
theorem mD_310 : ck_t prog_6_method_4_code mT_310 = true := mD_310_0
theorem mO_310 : mC_310.all (ck_c lw_tbl (mi_ev []) mi_Gs mi_mq mi_fr mi_lo 310 "SafeCode$Proof") = true := by decide +kernel
theorem mQ_310 : ck_q lw_tbl mi_cl mG_310 0 1 4 [261, 1425, 48] = true := by decide +kernel
set_option maxRecDepth 100000 in
theorem mW_310 : Cond.code ⟨"SafeCode$Proof", "bodiesMeant", "(I)J"⟩ prog_6_method_4_code 7 (some .long) ∈ lw_tbl.filter goodWord := mI_tables_1_5 (List.mem_of_getElem? (i := 219) rfl) rfl
theorem mD_311_0 : ck_t prog_6_method_7_code mT_311_0 = true := by decide +kernel
theorem mD_311 : ck_t prog_6_method_7_code mT_311 = true := mD_311_0
theorem mO_311 : mC_311.all (ck_c lw_tbl (mi_ev []) mi_Gs mi_mq mi_fr mi_lo 311 "SafeCode$Proof") = true := by decide +kernel
theorem mQ_311 : ck_q lw_tbl mi_cl mG_311 0 1 4 [261, 1473, 51] = true := by decide +kernel
set_option maxRecDepth 100000 in
theorem mW_311 : Cond.code ⟨"SafeCode$Proof", "bring", "(I)V"⟩ prog_6_method_7_code 2 (none) ∈ lw_tbl.filter goodWord := mI_tables_1_6 (List.mem_of_getElem? (i := 27) rfl) rfl
