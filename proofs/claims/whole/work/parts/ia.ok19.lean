/-! Checks of methods. -/
theorem mD_107_0 : ck_t prog_14_method_116_code mT_107_0 = true := by decide +kernel
theorem mD_107_1 : ck_t prog_14_method_116_code mT_107_1 = true := by decide +kernel
theorem mD_107_2 : ck_t prog_14_method_116_code mT_107_2 = true := by decide +kernel
theorem mD_107_3 : ck_t prog_14_method_116_code mT_107_3 = true := by decide +kernel
theorem mD_107 : ck_t prog_14_method_116_code mT_107 = true := ck_t_app mD_107_0 (ck_t_app mD_107_1 (ck_t_app mD_107_2 mD_107_3))
theorem mO_107 : mC_107.all (ck_c lw_tbl (mi_ev []) mi_Gs mi_mq mi_fr mi_lo 107 "SafeCodeModel") = true := by decide +kernel
theorem mQ_107 : ck_q lw_tbl mi_cl mG_107 0 2 13 [265, 2916, 213] = true := by decide +kernel
set_option maxRecDepth 100000 in
theorem mW_107 : Cond.code ⟨"SafeCodeModel", "element", "(LSafeCodeModel$Program;Z)Z"⟩ prog_14_method_116_code 12 (some .boolean) ∈ lw_tbl.filter goodWord := mI_tables_1_12 (List.mem_of_getElem? (i := 30) rfl) rfl
theorem mD_108_0 : ck_t prog_14_method_72_code mT_108_0 = true := by decide +kernel
theorem mD_108 : ck_t prog_14_method_72_code mT_108 = true := mD_108_0
theorem mO_108 : mC_108.all (ck_c lw_tbl (mi_ev []) mi_Gs mi_mq mi_fr mi_lo 108 "SafeCodeModel") = true := by decide +kernel
theorem mQ_108 : ck_q lw_tbl mi_cl mG_108 3 1 0 [265, 2761] = true := by decide +kernel
set_option maxRecDepth 100000 in
theorem mW_108 : Cond.code ⟨"SafeCodeModel", "elementOf", "(I)I"⟩ prog_14_method_72_code 1 (some .int) ∈ lw_tbl.filter goodWord := mI_tables_1_11 (List.mem_of_getElem? (i := 115) rfl) rfl
theorem mD_109_0 : ck_t prog_14_method_159_code mT_109_0 = true := by decide +kernel
theorem mD_109_1 : ck_t prog_14_method_159_code mT_109_1 = true := by decide +kernel
theorem mD_109_2 : ck_t prog_14_method_159_code mT_109_2 = true := by decide +kernel
theorem mD_109 : ck_t prog_14_method_159_code mT_109 = true := ck_t_app mD_109_0 (ck_t_app mD_109_1 mD_109_2)
theorem mO_109 : mC_109.all (ck_c lw_tbl (mi_ev []) mi_Gs mi_mq mi_fr mi_lo 109 "SafeCodeModel") = true := by decide +kernel
theorem mQ_109 : ck_q lw_tbl mi_cl mG_109 0 2 13 [265, 3114, 245] = true := by decide +kernel
set_option maxRecDepth 100000 in
theorem mW_109 : Cond.code ⟨"SafeCodeModel", "elementStep", "(II)V"⟩ prog_14_method_159_code 11 (none) ∈ lw_tbl.filter goodWord := mI_tables_1_12 (List.mem_of_getElem? (i := 228) rfl) rfl
theorem mD_110_0 : ck_t prog_14_method_4_code mT_110_0 = true := by decide +kernel
theorem mD_110 : ck_t prog_14_method_4_code mT_110 = true := mD_110_0
theorem mO_110 : mC_110.all (ck_c lw_tbl (mi_ev []) mi_Gs mi_mq mi_fr mi_lo 110 "SafeCodeModel") = true := by decide +kernel
theorem mQ_110 : ck_q lw_tbl mi_cl mG_110 0 1 13 [265, 2471, 2472] = true := by decide +kernel
set_option maxRecDepth 100000 in
theorem mW_110 : Cond.code ⟨"SafeCodeModel", "end", "(I)Z"⟩ prog_14_method_4_code 3 (some .boolean) ∈ lw_tbl.filter goodWord := mI_tables_1_10 (List.mem_of_getElem? (i := 66) rfl) rfl
theorem mD_111_0 : ck_t prog_14_method_149_code mT_111_0 = true := by decide +kernel
theorem mD_111 : ck_t prog_14_method_149_code mT_111 = true := mD_111_0
theorem mO_111 : mC_111.all (ck_c lw_tbl (mi_ev []) mi_Gs mi_mq mi_fr mi_lo 111 "SafeCodeModel") = true := by decide +kernel
theorem mQ_111 : ck_q lw_tbl mi_cl mG_111 0 2 13 [265, 3090, 239] = true := by decide +kernel
set_option maxRecDepth 100000 in
theorem mW_111 : Cond.code ⟨"SafeCodeModel", "ended", "(II)V"⟩ prog_14_method_149_code 3 (none) ∈ lw_tbl.filter goodWord := mI_tables_1_12 (List.mem_of_getElem? (i := 204) rfl) rfl
