/-! Checks of methods. -/
theorem mD_10_0 : ck_t prog_2_method_1_code mT_10_0 = true := by decide +kernel
theorem mD_10 : ck_t prog_2_method_1_code mT_10 = true := mD_10_0
theorem mO_10 : mC_10.all (ck_c lw_tbl (mi_ev []) mi_Gs mi_mq mi_fr mi_lo 10 "SafeCode$Bodies") = true := by decide +kernel
theorem mQ_10 : ck_q lw_tbl mi_cl mG_10 1 0 0 [257, 494] = true := by decide +kernel
set_option maxRecDepth 100000 in
theorem mW_10 : Cond.code ⟨"SafeCode$Bodies", "<init>", "()V"⟩ prog_2_method_1_code 1 (none) ∈ lw_tbl.filter goodWord := mI_tables_1_2 (List.mem_of_getElem? (i := 8) rfl) rfl
theorem mD_11_0 : ck_t prog_2_method_11_code mT_11_0 = true := by decide +kernel
theorem mD_11 : ck_t prog_2_method_11_code mT_11 = true := mD_11_0
theorem mO_11 : mC_11.all (ck_c lw_tbl (mi_ev []) mi_Gs mi_mq mi_fr mi_lo 11 "SafeCode$Bodies") = true := by decide +kernel
theorem mQ_11 : ck_q lw_tbl mi_cl mG_11 0 1 0 [257, 1271, 1272] = true := by decide +kernel
set_option maxRecDepth 100000 in
theorem mW_11 : Cond.code ⟨"SafeCode$Bodies", "mainOf", "(I)I"⟩ prog_2_method_11_code 3 (some .int) ∈ lw_tbl.filter goodWord := mI_tables_1_5 (List.mem_of_getElem? (i := 66) rfl) rfl
theorem mD_12_0 : ck_t prog_12_method_6_code mT_12_0 = true := by decide +kernel
theorem mD_12 : ck_t prog_12_method_6_code mT_12 = true := mD_12_0
theorem mO_12 : mC_12.all (ck_c lw_tbl (mi_ev []) mi_Gs mi_mq mi_fr mi_lo 12 "SafeCode$Words") = true := by decide +kernel
theorem mQ_12 : ck_q lw_tbl mi_cl mG_12 0 2 10 [249, 349, 2] = true := by decide +kernel
set_option maxRecDepth 100000 in
theorem mW_12 : Cond.code ⟨"SafeCode$Words", "addToken", "(II)V"⟩ prog_12_method_6_code 3 (none) ∈ lw_tbl.filter goodWord := mI_tables_1_1 (List.mem_of_getElem? (i := 103) rfl) rfl
theorem mD_13_0 : ck_t prog_12_method_5_code mT_13_0 = true := by decide +kernel
theorem mD_13_1 : ck_t prog_12_method_5_code mT_13_1 = true := by decide +kernel
theorem mD_13_2 : ck_t prog_12_method_5_code mT_13_2 = true := by decide +kernel
theorem mD_13 : ck_t prog_12_method_5_code mT_13 = true := ck_t_app mD_13_0 (ck_t_app mD_13_1 mD_13_2)
theorem mO_13 : mC_13.all (ck_c lw_tbl (mi_ev []) mi_Gs mi_mq mi_fr mi_lo 13 "SafeCode$Words") = true := by decide +kernel
theorem mQ_13 : ck_q lw_tbl mi_cl mG_13 0 2 10 [249, 345, 1] = true := by decide +kernel
set_option maxRecDepth 100000 in
theorem mW_13 : Cond.code ⟨"SafeCode$Words", "cut", "(II)Z"⟩ prog_12_method_5_code 10 (some .boolean) ∈ lw_tbl.filter goodWord := mI_tables_1_1 (List.mem_of_getElem? (i := 99) rfl) rfl
theorem mD_14_0 : ck_t prog_12_method_4_code mT_14_0 = true := by decide +kernel
theorem mD_14 : ck_t prog_12_method_4_code mT_14 = true := mD_14_0
theorem mO_14 : mC_14.all (ck_c lw_tbl (mi_ev []) mi_Gs mi_mq mi_fr mi_lo 14 "SafeCode$Words") = true := by decide +kernel
theorem mQ_14 : ck_q lw_tbl mi_cl mG_14 0 0 10 [249, 1035, 1036] = true := by decide +kernel
set_option maxRecDepth 100000 in
theorem mW_14 : Cond.code ⟨"SafeCode$Words", "cutText", "()Z"⟩ prog_12_method_4_code 2 (some .boolean) ∈ lw_tbl.filter goodWord := mI_tables_1_4 (List.mem_of_getElem? (i := 70) rfl) rfl
theorem mD_15_0 : ck_t prog_12_method_18_code mT_15_0 = true := by decide +kernel
theorem mD_15 : ck_t prog_12_method_18_code mT_15 = true := mD_15_0
theorem mO_15 : mC_15.all (ck_c lw_tbl (mi_ev []) mi_Gs mi_mq mi_fr mi_lo 15 "SafeCode$Words") = true := by decide +kernel
theorem mQ_15 : ck_q lw_tbl mi_cl mG_15 0 1 10 [249, 1136, 1137] = true := by decide +kernel
set_option maxRecDepth 100000 in
theorem mW_15 : Cond.code ⟨"SafeCode$Words", "firstOf", "(I)I"⟩ prog_12_method_18_code 2 (some .int) ∈ lw_tbl.filter goodWord := mI_tables_1_4 (List.mem_of_getElem? (i := 171) rfl) rfl
