/-! Checks of methods. -/
theorem mD_40_0 : ck_t prog_12_method_17_code mT_40_0 = true := by decide +kernel
theorem mD_40 : ck_t prog_12_method_17_code mT_40 = true := mD_40_0
theorem mO_40 : mC_40.all (ck_c lw_tbl (mi_ev []) mi_Gs mi_mq mi_fr mi_lo 40 "SafeCode$Words") = true := by decide +kernel
theorem mQ_40 : ck_q lw_tbl mi_cl mG_40 0 1 10 [249, 1075, 1076] = true := by decide +kernel
set_option maxRecDepth 100000 in
theorem mW_40 : Cond.code ⟨"SafeCode$Words", "isType", "(I)Z"⟩ prog_12_method_17_code 2 (some .boolean) ∈ lw_tbl.filter goodWord := mI_tables_1_4 (List.mem_of_getElem? (i := 110) rfl) rfl
theorem mD_41_0 : ck_t prog_12_method_8_code mT_41_0 = true := by decide +kernel
theorem mD_41 : ck_t prog_12_method_8_code mT_41 = true := mD_41_0
theorem mO_41 : mC_41.all (ck_c lw_tbl (mi_ev []) mi_Gs mi_mq mi_fr mi_lo 41 "SafeCode$Words") = true := by decide +kernel
theorem mQ_41 : ck_q lw_tbl mi_cl mG_41 0 3 10 [249, 357, 4] = true := by decide +kernel
set_option maxRecDepth 100000 in
theorem mW_41 : Cond.code ⟨"SafeCode$Words", "isWord", "(III)Z"⟩ prog_12_method_8_code 6 (some .boolean) ∈ lw_tbl.filter goodWord := mI_tables_1_1 (List.mem_of_getElem? (i := 111) rfl) rfl
theorem mD_42_0 : ck_t prog_12_method_7_code mT_42_0 = true := by decide +kernel
theorem mD_42_1 : ck_t prog_12_method_7_code mT_42_1 = true := by decide +kernel
theorem mD_42_2 : ck_t prog_12_method_7_code mT_42_2 = true := by decide +kernel
theorem mD_42 : ck_t prog_12_method_7_code mT_42 = true := ck_t_app mD_42_0 (ck_t_app mD_42_1 mD_42_2)
theorem mO_42 : mC_42.all (ck_c lw_tbl (mi_ev []) mi_Gs mi_mq mi_fr mi_lo 42 "SafeCode$Words") = true := by decide +kernel
theorem mQ_42 : ck_q lw_tbl mi_cl mG_42 0 2 10 [249, 353, 3] = true := by decide +kernel
set_option maxRecDepth 100000 in
theorem mW_42 : Cond.code ⟨"SafeCode$Words", "keep", "(II)I"⟩ prog_12_method_7_code 7 (some .int) ∈ lw_tbl.filter goodWord := mI_tables_1_1 (List.mem_of_getElem? (i := 107) rfl) rfl
theorem mD_43_0 : ck_t prog_12_method_12_code mT_43_0 = true := by decide +kernel
theorem mD_43 : ck_t prog_12_method_12_code mT_43 = true := mD_43_0
theorem mO_43 : mC_43.all (ck_c lw_tbl (mi_ev []) mi_Gs mi_mq mi_fr mi_lo 43 "SafeCode$Words") = true := by decide +kernel
theorem mQ_43 : ck_q lw_tbl mi_cl mG_43 0 2 10 [249, 369, 7] = true := by decide +kernel
set_option maxRecDepth 100000 in
theorem mW_43 : Cond.code ⟨"SafeCode$Words", "nameShape", "(II)I"⟩ prog_12_method_12_code 6 (some .int) ∈ lw_tbl.filter goodWord := mI_tables_1_1 (List.mem_of_getElem? (i := 123) rfl) rfl
theorem mD_44_0 : ck_t prog_12_method_14_code mT_44_0 = true := by decide +kernel
theorem mD_44 : ck_t prog_12_method_14_code mT_44 = true := mD_44_0
theorem mO_44 : mC_44.all (ck_c lw_tbl (mi_ev []) mi_Gs mi_mq mi_fr mi_lo 44 "SafeCode$Words") = true := by decide +kernel
theorem mQ_44 : ck_q lw_tbl mi_cl mG_44 0 2 10 [249, 377, 9] = true := by decide +kernel
set_option maxRecDepth 100000 in
theorem mW_44 : Cond.code ⟨"SafeCode$Words", "numberAt", "(II)J"⟩ prog_12_method_14_code 7 (some .long) ∈ lw_tbl.filter goodWord := mI_tables_1_1 (List.mem_of_getElem? (i := 131) rfl) rfl
theorem mD_45_0 : ck_t prog_12_method_2_code mT_45_0 = true := by decide +kernel
theorem mD_45 : ck_t prog_12_method_2_code mT_45 = true := mD_45_0
theorem mO_45 : mC_45.all (ck_c lw_tbl (mi_ev []) mi_Gs mi_mq mi_fr mi_lo 45 "SafeCode$Words") = true := by decide +kernel
theorem mQ_45 : ck_q lw_tbl mi_cl mG_45 0 2 10 [249, 288, 0] = true := by decide +kernel
set_option maxRecDepth 100000 in
theorem mW_45 : Cond.code ⟨"SafeCode$Words", "putFixed", "(Ljava/lang/String;I)I"⟩ prog_12_method_2_code 4 (some .int) ∈ lw_tbl.filter goodWord := mI_tables_1_1 (List.mem_of_getElem? (i := 42) rfl) rfl
