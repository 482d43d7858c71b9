/-! Checks of methods. -/
theorem mD_33_0 : ck_t prog_1_method_2_code mT_33_0 = true := by decide +kernel
theorem mD_33 : ck_t prog_1_method_2_code mT_33 = true := mD_33_0
theorem mO_33 : mC_33.all (ck_c lw_tbl (mi_ev []) mi_Gs mi_mq mi_fr mi_lo 33 "SafeCode") = true := by decide +kernel
theorem mQ_33 : ck_q lw_tbl mi_cl mG_33 0 5 11 [248, 1011, 1012] = true := by decide +kernel
set_option maxRecDepth 100000 in
theorem mW_33 : Cond.code ⟨"SafeCode", "feed", "(IIIII)I"⟩ prog_1_method_2_code 6 (some .int) ∈ lw_tbl.filter goodWord := mI_tables_1_4 (List.mem_of_getElem? (i := 46) rfl) rfl
theorem mD_34_0 : ck_t prog_1_method_3_code mT_34_0 = true := by decide +kernel
theorem mD_34 : ck_t prog_1_method_3_code mT_34 = true := mD_34_0
theorem mO_34 : mC_34.all (ck_c lw_tbl (mi_ev []) mi_Gs mi_mq mi_fr mi_lo 34 "SafeCode") = true := by decide +kernel
theorem mQ_34 : ck_q lw_tbl mi_cl mG_34 0 1 11 [248, 1017, 10] = true := by decide +kernel
set_option maxRecDepth 100000 in
theorem mW_34 : Cond.code ⟨"SafeCode", "feedWord", "(I)V"⟩ prog_1_method_3_code 3 (none) ∈ lw_tbl.filter goodWord := mI_tables_1_4 (List.mem_of_getElem? (i := 51) rfl) rfl
theorem mD_35_0 : ck_t prog_1_method_17_code mT_35_0 = true := by decide +kernel
theorem mD_35 : ck_t prog_1_method_17_code mT_35 = true := mD_35_0
theorem mO_35 : mC_35.all (ck_c lw_tbl (mi_ev []) mi_Gs mi_mq mi_fr mi_lo 35 "SafeCode") = true := by decide +kernel
theorem mQ_35 : ck_q lw_tbl mi_cl mG_35 0 2 11 [248, 1843, 1844] = true := by decide +kernel
set_option maxRecDepth 100000 in
theorem mW_35 : Cond.code ⟨"SafeCode", "high", "(II)I"⟩ prog_1_method_17_code 3 (some .int) ∈ lw_tbl.filter goodWord := mI_tables_1_7 (List.mem_of_getElem? (i := 158) rfl) rfl
theorem mD_36_0 : ck_t prog_1_method_1_code mT_36_0 = true := by decide +kernel
theorem mD_36 : ck_t prog_1_method_1_code mT_36 = true := mD_36_0
theorem mO_36 : mC_36.all (ck_c lw_tbl (mi_ev []) mi_Gs mi_mq mi_fr mi_lo 36 "SafeCode") = true := by decide +kernel
theorem mQ_36 : ck_q lw_tbl mi_cl mG_36 1 0 0 [248, 274] = true := by decide +kernel
set_option maxRecDepth 100000 in
theorem mW_36 : Cond.code ⟨"SafeCode", "<init>", "()V"⟩ prog_1_method_1_code 1 (none) ∈ lw_tbl.filter goodWord := mI_tables_1_1 (List.mem_of_getElem? (i := 28) rfl) rfl
theorem mD_37_0 : ck_t prog_1_method_21_code mT_37_0 = true := by decide +kernel
theorem mD_37 : ck_t prog_1_method_21_code mT_37 = true := mD_37_0
theorem mO_37 : mC_37.all (ck_c lw_tbl (mi_ev []) mi_Gs mi_mq mi_fr mi_lo 37 "SafeCode") = true := by decide +kernel
theorem mQ_37 : ck_q lw_tbl mi_cl mG_37 0 1 11 [248, 1864, 1865] = true := by decide +kernel
set_option maxRecDepth 100000 in
theorem mW_37 : Cond.code ⟨"SafeCode", "input", "(I)Z"⟩ prog_1_method_21_code 2 (some .boolean) ∈ lw_tbl.filter goodWord := mI_tables_1_7 (List.mem_of_getElem? (i := 179) rfl) rfl
theorem mD_38_0 : ck_t prog_1_method_8_code mT_38_0 = true := by decide +kernel
theorem mD_38 : ck_t prog_1_method_8_code mT_38 = true := mD_38_0
theorem mO_38 : mC_38.all (ck_c lw_tbl (mi_ev []) mi_Gs mi_mq mi_fr mi_lo 38 "SafeCode") = true := by decide +kernel
theorem mQ_38 : ck_q lw_tbl mi_cl mG_38 0 1 11 [248, 1810, 90] = true := by decide +kernel
set_option maxRecDepth 100000 in
theorem mW_38 : Cond.code ⟨"SafeCode", "isInstruction", "(I)Z"⟩ prog_1_method_8_code 2 (some .boolean) ∈ lw_tbl.filter goodWord := mI_tables_1_7 (List.mem_of_getElem? (i := 124) rfl) rfl
