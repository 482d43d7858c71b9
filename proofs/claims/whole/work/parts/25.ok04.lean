/-! Checks of methods. -/
theorem mD_21_0 : ck_t prog_12_method_12_code mT_21_0 = true := by decide +kernel
theorem mD_21 : ck_t prog_12_method_12_code mT_21 = true := mD_21_0
theorem mO_21 : mC_21.all (ck_c lw_tbl (mi_ev []) mi_Gs mi_mq mi_fr mi_lo 21 "SafeCode$Words") = true := by decide +kernel
theorem mQ_21 : ck_q lw_tbl mi_cl mG_21 0 2 10 [249, 369, 7] = true := by decide +kernel
set_option maxRecDepth 100000 in
theorem mW_21 : Cond.code ⟨"SafeCode$Words", "nameShape", "(II)I"⟩ prog_12_method_12_code 6 (some .int) ∈ lw_tbl.filter goodWord := mI_tables_1_1 (List.mem_of_getElem? (i := 123) rfl) rfl
theorem mD_22_0 : ck_t prog_12_method_2_code mT_22_0 = true := by decide +kernel
theorem mD_22 : ck_t prog_12_method_2_code mT_22 = true := mD_22_0
theorem mO_22 : mC_22.all (ck_c lw_tbl (mi_ev []) mi_Gs mi_mq mi_fr mi_lo 22 "SafeCode$Words") = true := by decide +kernel
theorem mQ_22 : ck_q lw_tbl mi_cl mG_22 0 2 10 [249, 288, 0] = true := by decide +kernel
set_option maxRecDepth 100000 in
theorem mW_22 : Cond.code ⟨"SafeCode$Words", "putFixed", "(Ljava/lang/String;I)I"⟩ prog_12_method_2_code 4 (some .int) ∈ lw_tbl.filter goodWord := mI_tables_1_1 (List.mem_of_getElem? (i := 42) rfl) rfl
theorem mD_23_0 : ck_t prog_12_method_3_code mT_23_0 = true := by decide +kernel
theorem mD_23 : ck_t prog_12_method_3_code mT_23 = true := mD_23_0
theorem mO_23 : mC_23.all (ck_c lw_tbl (mi_ev []) mi_Gs mi_mq mi_fr mi_lo 23 "SafeCode$Words") = true := by decide +kernel
theorem mQ_23 : ck_q lw_tbl mi_cl mG_23 0 2 10 [249, 1024, 1025] = true := by decide +kernel
set_option maxRecDepth 100000 in
theorem mW_23 : Cond.code ⟨"SafeCode$Words", "setText", "([BI)V"⟩ prog_12_method_3_code 3 (none) ∈ lw_tbl.filter goodWord := mI_tables_1_4 (List.mem_of_getElem? (i := 59) rfl) rfl
theorem mD_24_0 : ck_t prog_12_method_11_code mT_24_0 = true := by decide +kernel
theorem mD_24_1 : ck_t prog_12_method_11_code mT_24_1 = true := by decide +kernel
theorem mD_24_2 : ck_t prog_12_method_11_code mT_24_2 = true := by decide +kernel
theorem mD_24_3 : ck_t prog_12_method_11_code mT_24_3 = true := by decide +kernel
theorem mD_24 : ck_t prog_12_method_11_code mT_24 = true := ck_t_app mD_24_0 (ck_t_app mD_24_1 (ck_t_app mD_24_2 mD_24_3))
theorem mO_24 : mC_24.all (ck_c lw_tbl (mi_ev []) mi_Gs mi_mq mi_fr mi_lo 24 "SafeCode$Words") = true := by decide +kernel
theorem mQ_24 : ck_q lw_tbl mi_cl mG_24 0 1 10 [249, 365, 6] = true := by decide +kernel
set_option maxRecDepth 100000 in
theorem mW_24 : Cond.code ⟨"SafeCode$Words", "shapeOf", "(I)I"⟩ prog_12_method_11_code 6 (some .int) ∈ lw_tbl.filter goodWord := mI_tables_1_1 (List.mem_of_getElem? (i := 119) rfl) rfl
theorem mD_25_0 : ck_t prog_12_method_10_code mT_25_0 = true := by decide +kernel
theorem mD_25 : ck_t prog_12_method_10_code mT_25 = true := mD_25_0
theorem mO_25 : mC_25.all (ck_c lw_tbl (mi_ev []) mi_Gs mi_mq mi_fr mi_lo 25 "SafeCode$Words") = true := by decide +kernel
theorem mQ_25 : ck_q lw_tbl mi_cl mG_25 0 1 10 [249, 361, 5] = true := by decide +kernel
set_option maxRecDepth 100000 in
theorem mW_25 : Cond.code ⟨"SafeCode$Words", "shapeWords", "(I)V"⟩ prog_12_method_10_code 3 (none) ∈ lw_tbl.filter goodWord := mI_tables_1_1 (List.mem_of_getElem? (i := 115) rfl) rfl
theorem mD_26_0 : ck_t prog_1_method_4_code mT_26_0 = true := by decide +kernel
theorem mD_26 : ck_t prog_1_method_4_code mT_26 = true := mD_26_0
theorem mO_26 : mC_26.all (ck_c lw_tbl (mi_ev []) mi_Gs mi_mq mi_fr mi_lo 26 "SafeCode") = true := by decide +kernel
theorem mQ_26 : ck_q lw_tbl mi_cl mG_26 0 1 11 [248, 1020, 1021] = true := by decide +kernel
set_option maxRecDepth 100000 in
theorem mW_26 : Cond.code ⟨"SafeCode", "end", "(I)Z"⟩ prog_1_method_4_code 2 (some .boolean) ∈ lw_tbl.filter goodWord := mI_tables_1_4 (List.mem_of_getElem? (i := 55) rfl) rfl
