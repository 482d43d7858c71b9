/-! Checks of methods. -/
theorem mD_87_0 : ck_t prog_14_method_30_code mT_87_0 = true := by decide +kernel
theorem mD_87 : ck_t prog_14_method_30_code mT_87 = true := mD_87_0
theorem mO_87 : mC_87.all (ck_c lw_tbl (mi_ev []) mi_Gs mi_mq mi_fr mi_lo 87 "SafeCodeModel") = true := by decide +kernel
theorem mQ_87 : ck_q lw_tbl mi_cl mG_87 0 1 13 [265, 2602, 150] = true := by decide +kernel
set_option maxRecDepth 100000 in
theorem mW_87 : Cond.code ⟨"SafeCodeModel", "behind", "(I)I"⟩ prog_14_method_30_code 4 (some .int) ∈ lw_tbl.filter goodWord := mI_tables_1_10 (List.mem_of_getElem? (i := 196) rfl) rfl
theorem mD_88_0 : ck_t prog_14_method_31_code mT_88_0 = true := by decide +kernel
theorem mD_88 : ck_t prog_14_method_31_code mT_88 = true := mD_88_0
theorem mO_88 : mC_88.all (ck_c lw_tbl (mi_ev []) mi_Gs mi_mq mi_fr mi_lo 88 "SafeCodeModel") = true := by decide +kernel
theorem mQ_88 : ck_q lw_tbl mi_cl mG_88 0 1 13 [265, 2642, 159] = true := by decide +kernel
set_option maxRecDepth 100000 in
theorem mW_88 : Cond.code ⟨"SafeCodeModel", "behindMember", "(I)I"⟩ prog_14_method_31_code 2 (some .int) ∈ lw_tbl.filter goodWord := mI_tables_1_10 (List.mem_of_getElem? (i := 236) rfl) rfl
theorem mD_89_0 : ck_t prog_14_method_39_code mT_89_0 = true := by decide +kernel
theorem mD_89_1 : ck_t prog_14_method_39_code mT_89_1 = true := by decide +kernel
theorem mD_89_2 : ck_t prog_14_method_39_code mT_89_2 = true := by decide +kernel
theorem mD_89_3 : ck_t prog_14_method_39_code mT_89_3 = true := by decide +kernel
theorem mD_89_4 : ck_t prog_14_method_39_code mT_89_4 = true := by decide +kernel
theorem mD_89_5 : ck_t prog_14_method_39_code mT_89_5 = true := by decide +kernel
theorem mD_89 : ck_t prog_14_method_39_code mT_89 = true := ck_t_app mD_89_0 (ck_t_app mD_89_1 (ck_t_app mD_89_2 (ck_t_app mD_89_3 (ck_t_app mD_89_4 mD_89_5))))
theorem mO_89 : mC_89.all (ck_c lw_tbl (mi_ev []) mi_Gs mi_mq mi_fr mi_lo 89 "SafeCodeModel") = true := by decide +kernel
theorem mQ_89 : ck_q lw_tbl mi_cl mG_89 0 3 13 [265, 2625, 155] = true := by decide +kernel
set_option maxRecDepth 100000 in
theorem mW_89 : Cond.code ⟨"SafeCodeModel", "body", "(LSafeCodeModel$Program;II)Z"⟩ prog_14_method_39_code 12 (some .boolean) ∈ lw_tbl.filter goodWord := mI_tables_1_10 (List.mem_of_getElem? (i := 219) rfl) rfl
theorem mD_90_0 : ck_t prog_14_method_35_code mT_90_0 = true := by decide +kernel
theorem mD_90 : ck_t prog_14_method_35_code mT_90 = true := mD_90_0
theorem mO_90 : mC_90.all (ck_c lw_tbl (mi_ev []) mi_Gs mi_mq mi_fr mi_lo 90 "SafeCodeModel") = true := by decide +kernel
theorem mQ_90 : ck_q lw_tbl mi_cl mG_90 0 4 13 [265, 2629, 156] = true := by decide +kernel
set_option maxRecDepth 100000 in
theorem mW_90 : Cond.code ⟨"SafeCodeModel", "bodyOf", "(LSafeCodeModel$Program;III)I"⟩ prog_14_method_35_code 7 (some .int) ∈ lw_tbl.filter goodWord := mI_tables_1_10 (List.mem_of_getElem? (i := 223) rfl) rfl
theorem mD_91_0 : ck_t prog_14_method_156_code mT_91_0 = true := by decide +kernel
theorem mD_91_1 : ck_t prog_14_method_156_code mT_91_1 = true := by decide +kernel
theorem mD_91_2 : ck_t prog_14_method_156_code mT_91_2 = true := by decide +kernel
theorem mD_91 : ck_t prog_14_method_156_code mT_91 = true := ck_t_app mD_91_0 (ck_t_app mD_91_1 mD_91_2)
theorem mO_91 : mC_91.all (ck_c lw_tbl (mi_ev []) mi_Gs mi_mq mi_fr mi_lo 91 "SafeCodeModel") = true := by decide +kernel
theorem mQ_91 : ck_q lw_tbl mi_cl mG_91 0 2 13 [265, 3102, 242] = true := by decide +kernel
set_option maxRecDepth 100000 in
theorem mW_91 : Cond.code ⟨"SafeCodeModel", "branch", "(II)V"⟩ prog_14_method_156_code 8 (none) ∈ lw_tbl.filter goodWord := mI_tables_1_12 (List.mem_of_getElem? (i := 216) rfl) rfl
