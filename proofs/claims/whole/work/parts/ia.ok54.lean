/-! Checks of methods. -/
theorem mD_300_0 : ck_t prog_5_method_2_code mT_300_0 = true := by decide +kernel
theorem mD_300 : ck_t prog_5_method_2_code mT_300 = true := mD_300_0
theorem mO_300 : mC_300.all (ck_c lw_tbl (mi_ev []) mi_Gs mi_mq mi_fr mi_lo 300 "SafeCode$Program") = true := by decide +kernel
theorem mQ_300 : ck_q lw_tbl mi_cl mG_300 0 0 3 [255, 1098, 1099] = true := by decide +kernel
set_option maxRecDepth 100000 in
theorem mW_300 : Cond.code ⟨"SafeCode$Program", "clear", "()V"⟩ prog_5_method_2_code 2 (none) ∈ lw_tbl.filter goodWord := mI_tables_1_4 (List.mem_of_getElem? (i := 133) rfl) rfl
theorem mD_301_0 : ck_t prog_5_method_6_code mT_301_0 = true := by decide +kernel
theorem mD_301 : ck_t prog_5_method_6_code mT_301 = true := mD_301_0
theorem mO_301 : mC_301.all (ck_c lw_tbl (mi_ev []) mi_Gs mi_mq mi_fr mi_lo 301 "SafeCode$Program") = true := by decide +kernel
theorem mQ_301 : ck_q lw_tbl mi_cl mG_301 0 1 3 [255, 1250, 1251] = true := by decide +kernel
set_option maxRecDepth 100000 in
theorem mW_301 : Cond.code ⟨"SafeCode$Program", "closes", "(I)Z"⟩ prog_5_method_6_code 3 (some .boolean) ∈ lw_tbl.filter goodWord := mI_tables_1_5 (List.mem_of_getElem? (i := 45) rfl) rfl
theorem mD_302_0 : ck_t prog_5_method_8_code mT_302_0 = true := by decide +kernel
theorem mD_302 : ck_t prog_5_method_8_code mT_302 = true := mD_302_0
theorem mO_302 : mC_302.all (ck_c lw_tbl (mi_ev []) mi_Gs mi_mq mi_fr mi_lo 302 "SafeCode$Program") = true := by decide +kernel
theorem mQ_302 : ck_q lw_tbl mi_cl mG_302 0 2 3 [255, 1317, 1318] = true := by decide +kernel
set_option maxRecDepth 100000 in
theorem mW_302 : Cond.code ⟨"SafeCode$Program", "covers", "(II)Z"⟩ prog_5_method_8_code 3 (some .boolean) ∈ lw_tbl.filter goodWord := mI_tables_1_5 (List.mem_of_getElem? (i := 112) rfl) rfl
theorem mD_303_0 : ck_t prog_5_method_7_code mT_303_0 = true := by decide +kernel
theorem mD_303 : ck_t prog_5_method_7_code mT_303 = true := mD_303_0
theorem mO_303 : mC_303.all (ck_c lw_tbl (mi_ev []) mi_Gs mi_mq mi_fr mi_lo 303 "SafeCode$Program") = true := by decide +kernel
theorem mQ_303 : ck_q lw_tbl mi_cl mG_303 3 1 0 [255, 1254] = true := by decide +kernel
set_option maxRecDepth 100000 in
theorem mW_303 : Cond.code ⟨"SafeCode$Program", "endsBody", "(I)Z"⟩ prog_5_method_7_code 1 (some .boolean) ∈ lw_tbl.filter goodWord := mI_tables_1_5 (List.mem_of_getElem? (i := 48) rfl) rfl
theorem mD_304_0 : ck_t prog_5_method_12_code mT_304_0 = true := by decide +kernel
theorem mD_304 : ck_t prog_5_method_12_code mT_304 = true := mD_304_0
theorem mO_304 : mC_304.all (ck_c lw_tbl (mi_ev []) mi_Gs mi_mq mi_fr mi_lo 304 "SafeCode$Program") = true := by decide +kernel
theorem mQ_304 : ck_q lw_tbl mi_cl mG_304 0 1 3 [255, 1304, 1305] = true := by decide +kernel
set_option maxRecDepth 100000 in
theorem mW_304 : Cond.code ⟨"SafeCode$Program", "fallsThrough", "(I)Z"⟩ prog_5_method_12_code 2 (some .boolean) ∈ lw_tbl.filter goodWord := mI_tables_1_5 (List.mem_of_getElem? (i := 99) rfl) rfl
theorem mD_305_0 : ck_t prog_5_method_1_code mT_305_0 = true := by decide +kernel
theorem mD_305 : ck_t prog_5_method_1_code mT_305 = true := mD_305_0
theorem mO_305 : mC_305.all (ck_c lw_tbl (mi_ev []) mi_Gs mi_mq mi_fr mi_lo 305 "SafeCode$Program") = true := by decide +kernel
theorem mQ_305 : ck_q lw_tbl mi_cl mG_305 1 0 0 [255, 440] = true := by decide +kernel
set_option maxRecDepth 100000 in
theorem mW_305 : Cond.code ⟨"SafeCode$Program", "<init>", "()V"⟩ prog_5_method_1_code 1 (none) ∈ lw_tbl.filter goodWord := mI_tables_1_1 (List.mem_of_getElem? (i := 194) rfl) rfl
