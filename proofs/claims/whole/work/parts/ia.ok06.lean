/-! Checks of methods. -/
theorem mD_34_0 : ck_t prog_12_method_4_code mT_34_0 = true := by decide +kernel
theorem mD_34 : ck_t prog_12_method_4_code mT_34 = true := mD_34_0
theorem mO_34 : mC_34.all (ck_c lw_tbl (mi_ev []) mi_Gs mi_mq mi_fr mi_lo 34 "SafeCode$Words") = true := by decide +kernel
theorem mQ_34 : ck_q lw_tbl mi_cl mG_34 0 0 10 [249, 1035, 1036] = true := by decide +kernel
set_option maxRecDepth 100000 in
theorem mW_34 : Cond.code ⟨"SafeCode$Words", "cutText", "()Z"⟩ prog_12_method_4_code 2 (some .boolean) ∈ lw_tbl.filter goodWord := mI_tables_1_4 (List.mem_of_getElem? (i := 70) rfl) rfl
theorem mD_35_0 : ck_t prog_12_method_18_code mT_35_0 = true := by decide +kernel
theorem mD_35 : ck_t prog_12_method_18_code mT_35 = true := mD_35_0
theorem mO_35 : mC_35.all (ck_c lw_tbl (mi_ev []) mi_Gs mi_mq mi_fr mi_lo 35 "SafeCode$Words") = true := by decide +kernel
theorem mQ_35 : ck_q lw_tbl mi_cl mG_35 0 1 10 [249, 1136, 1137] = true := by decide +kernel
set_option maxRecDepth 100000 in
theorem mW_35 : Cond.code ⟨"SafeCode$Words", "firstOf", "(I)I"⟩ prog_12_method_18_code 2 (some .int) ∈ lw_tbl.filter goodWord := mI_tables_1_4 (List.mem_of_getElem? (i := 171) rfl) rfl
theorem mD_36_0 : ck_t prog_12_method_9_code mT_36_0 = true := by decide +kernel
theorem mD_36 : ck_t prog_12_method_9_code mT_36 = true := mD_36_0
theorem mO_36 : mC_36.all (ck_c lw_tbl (mi_ev []) mi_Gs mi_mq mi_fr mi_lo 36 "SafeCode$Words") = true := by decide +kernel
theorem mQ_36 : ck_q lw_tbl mi_cl mG_36 0 0 10 [249, 1040, 11] = true := by decide +kernel
set_option maxRecDepth 100000 in
theorem mW_36 : Cond.code ⟨"SafeCode$Words", "forgetMeanings", "()V"⟩ prog_12_method_9_code 3 (none) ∈ lw_tbl.filter goodWord := mI_tables_1_4 (List.mem_of_getElem? (i := 74) rfl) rfl
theorem mD_37_0 : ck_t prog_12_method_16_code mT_37_0 = true := by decide +kernel
theorem mD_37 : ck_t prog_12_method_16_code mT_37 = true := mD_37_0
theorem mO_37 : mC_37.all (ck_c lw_tbl (mi_ev []) mi_Gs mi_mq mi_fr mi_lo 37 "SafeCode$Words") = true := by decide +kernel
theorem mQ_37 : ck_q lw_tbl mi_cl mG_37 0 2 10 [249, 1063, 1064] = true := by decide +kernel
set_option maxRecDepth 100000 in
theorem mW_37 : Cond.code ⟨"SafeCode$Words", "hasShape", "(II)Z"⟩ prog_12_method_16_code 3 (some .boolean) ∈ lw_tbl.filter goodWord := mI_tables_1_4 (List.mem_of_getElem? (i := 98) rfl) rfl
theorem mD_38_0 : ck_t prog_12_method_1_code mT_38_0 = true := by decide +kernel
theorem mD_38_1 : ck_t prog_12_method_1_code mT_38_1 = true := by decide +kernel
theorem mD_38_2 : ck_t prog_12_method_1_code mT_38_2 = true := by decide +kernel
theorem mD_38 : ck_t prog_12_method_1_code mT_38 = true := ck_t_app mD_38_0 (ck_t_app mD_38_1 mD_38_2)
theorem mO_38 : mC_38.all (ck_c lw_tbl (mi_ev []) mi_Gs mi_mq mi_fr mi_lo 38 "SafeCode$Words") = true := by decide +kernel
theorem mQ_38 : ck_q lw_tbl mi_cl mG_38 1 0 0 [249, 282] = true := by decide +kernel
set_option maxRecDepth 100000 in
theorem mW_38 : Cond.code ⟨"SafeCode$Words", "<init>", "()V"⟩ prog_12_method_1_code 2 (none) ∈ lw_tbl.filter goodWord := mI_tables_1_1 (List.mem_of_getElem? (i := 36) rfl) rfl
theorem mD_39_0 : ck_t prog_12_method_13_code mT_39_0 = true := by decide +kernel
theorem mD_39 : ck_t prog_12_method_13_code mT_39 = true := mD_39_0
theorem mO_39 : mC_39.all (ck_c lw_tbl (mi_ev []) mi_Gs mi_mq mi_fr mi_lo 39 "SafeCode$Words") = true := by decide +kernel
theorem mQ_39 : ck_q lw_tbl mi_cl mG_39 0 2 10 [249, 373, 8] = true := by decide +kernel
set_option maxRecDepth 100000 in
theorem mW_39 : Cond.code ⟨"SafeCode$Words", "isNumber", "(II)Z"⟩ prog_12_method_13_code 6 (some .boolean) ∈ lw_tbl.filter goodWord := mI_tables_1_1 (List.mem_of_getElem? (i := 127) rfl) rfl
