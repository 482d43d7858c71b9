/-! Checks of methods. -/
theorem mD_118_0 : ck_t prog_14_method_123_code mT_118_0 = true := by decide +kernel
theorem mD_118 : ck_t prog_14_method_123_code mT_118 = true := mD_118_0
theorem mO_118 : mC_118.all (ck_c lw_tbl (mi_ev []) mi_Gs mi_mq mi_fr mi_lo 118 "SafeCodeModel") = true := by decide +kernel
theorem mQ_118 : ck_q lw_tbl mi_cl mG_118 0 0 13 [265, 2969, 2970] = true := by decide +kernel
set_option maxRecDepth 100000 in
theorem mW_118 : Cond.code ⟨"SafeCodeModel", "faultAt", "()I"⟩ prog_14_method_123_code 1 (some .int) ∈ lw_tbl.filter goodWord := mI_tables_1_12 (List.mem_of_getElem? (i := 84) rfl) rfl
theorem mD_119_0 : ck_t prog_14_method_3_code mT_119_0 = true := by decide +kernel
theorem mD_119 : ck_t prog_14_method_3_code mT_119 = true := mD_119_0
theorem mO_119 : mC_119.all (ck_c lw_tbl (mi_ev []) mi_Gs mi_mq mi_fr mi_lo 119 "SafeCodeModel") = true := by decide +kernel
theorem mQ_119 : ck_q lw_tbl mi_cl mG_119 0 5 13 [265, 2462, 2463] = true := by decide +kernel
set_option maxRecDepth 100000 in
theorem mW_119 : Cond.code ⟨"SafeCodeModel", "feed", "(IIIII)I"⟩ prog_14_method_3_code 6 (some .int) ∈ lw_tbl.filter goodWord := mI_tables_1_10 (List.mem_of_getElem? (i := 57) rfl) rfl
theorem mD_120_0 : ck_t prog_14_method_78_code mT_120_0 = true := by decide +kernel
theorem mD_120_1 : ck_t prog_14_method_78_code mT_120_1 = true := by decide +kernel
theorem mD_120_2 : ck_t prog_14_method_78_code mT_120_2 = true := by decide +kernel
theorem mD_120 : ck_t prog_14_method_78_code mT_120 = true := ck_t_app mD_120_0 (ck_t_app mD_120_1 mD_120_2)
theorem mO_120 : mC_120.all (ck_c lw_tbl (mi_ev []) mi_Gs mi_mq mi_fr mi_lo 120 "SafeCodeModel") = true := by decide +kernel
theorem mQ_120 : ck_q lw_tbl mi_cl mG_120 0 2 13 [265, 2809, 190] = true := by decide +kernel
set_option maxRecDepth 100000 in
theorem mW_120 : Cond.code ⟨"SafeCodeModel", "fetch", "(LSafeCodeModel$Program;I)V"⟩ prog_14_method_78_code 5 (none) ∈ lw_tbl.filter goodWord := mI_tables_1_11 (List.mem_of_getElem? (i := 163) rfl) rfl
theorem mD_121_0 : ck_t prog_14_method_37_code mT_121_0 = true := by decide +kernel
theorem mD_121 : ck_t prog_14_method_37_code mT_121 = true := mD_121_0
theorem mO_121 : mC_121.all (ck_c lw_tbl (mi_ev []) mi_Gs mi_mq mi_fr mi_lo 121 "SafeCodeModel") = true := by decide +kernel
theorem mQ_121 : ck_q lw_tbl mi_cl mG_121 0 3 13 [265, 2610, 152] = true := by decide +kernel
set_option maxRecDepth 100000 in
theorem mW_121 : Cond.code ⟨"SafeCodeModel", "field", "(LSafeCodeModel$Program;II)Z"⟩ prog_14_method_37_code 5 (some .boolean) ∈ lw_tbl.filter goodWord := mI_tables_1_10 (List.mem_of_getElem? (i := 204) rfl) rfl
theorem mD_122_0 : ck_t prog_14_method_34_code mT_122_0 = true := by decide +kernel
theorem mD_122 : ck_t prog_14_method_34_code mT_122 = true := mD_122_0
theorem mO_122 : mC_122.all (ck_c lw_tbl (mi_ev []) mi_Gs mi_mq mi_fr mi_lo 122 "SafeCodeModel") = true := by decide +kernel
theorem mQ_122 : ck_q lw_tbl mi_cl mG_122 0 4 13 [265, 2614, 153] = true := by decide +kernel
set_option maxRecDepth 100000 in
theorem mW_122 : Cond.code ⟨"SafeCodeModel", "fieldOf", "(LSafeCodeModel$Program;III)I"⟩ prog_14_method_34_code 6 (some .int) ∈ lw_tbl.filter goodWord := mI_tables_1_10 (List.mem_of_getElem? (i := 208) rfl) rfl
theorem mD_123_0 : ck_t prog_14_method_118_code mT_123_0 = true := by decide +kernel
theorem mD_123 : ck_t prog_14_method_118_code mT_123 = true := mD_123_0
theorem mO_123 : mC_123.all (ck_c lw_tbl (mi_ev []) mi_Gs mi_mq mi_fr mi_lo 123 "SafeCodeModel") = true := by decide +kernel
theorem mQ_123 : ck_q lw_tbl mi_cl mG_123 0 3 13 [265, 2932, 216] = true := by decide +kernel
set_option maxRecDepth 100000 in
theorem mW_123 : Cond.code ⟨"SafeCodeModel", "fieldStep", "(LSafeCodeModel$Program;IZ)Z"⟩ prog_14_method_118_code 8 (some .boolean) ∈ lw_tbl.filter goodWord := mI_tables_1_12 (List.mem_of_getElem? (i := 46) rfl) rfl
