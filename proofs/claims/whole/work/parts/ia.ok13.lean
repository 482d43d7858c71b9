/-! Checks of methods. -/
theorem mD_76_0 : ck_t prog_1_method_28_code mT_76_0 = true := by decide +kernel
theorem mD_76 : ck_t prog_1_method_28_code mT_76 = true := mD_76_0
theorem mO_76 : mC_76.all (ck_c lw_tbl (mi_ev []) mi_Gs mi_mq mi_fr mi_lo 76 "SafeCode") = true := by decide +kernel
theorem mQ_76 : ck_q lw_tbl mi_cl mG_76 0 0 11 [248, 2048, 2049] = true := by decide +kernel
set_option maxRecDepth 100000 in
theorem mW_76 : Cond.code ⟨"SafeCode", "strays", "()I"⟩ prog_1_method_28_code 1 (some .int) ∈ lw_tbl.filter goodWord := mI_tables_1_8 (List.mem_of_getElem? (i := 123) rfl) rfl
theorem mD_77_0 : ck_t prog_1_method_25_code mT_77_0 = true := by decide +kernel
theorem mD_77 : ck_t prog_1_method_25_code mT_77 = true := mD_77_0
theorem mO_77 : mC_77.all (ck_c lw_tbl (mi_ev []) mi_Gs mi_mq mi_fr mi_lo 77 "SafeCode") = true := by decide +kernel
theorem mQ_77 : ck_q lw_tbl mi_cl mG_77 0 0 11 [248, 2036, 2037] = true := by decide +kernel
set_option maxRecDepth 100000 in
theorem mW_77 : Cond.code ⟨"SafeCode", "thrown", "()I"⟩ prog_1_method_25_code 1 (some .int) ∈ lw_tbl.filter goodWord := mI_tables_1_8 (List.mem_of_getElem? (i := 111) rfl) rfl
theorem mD_78_0 : ck_t prog_1_method_14_code mT_78_0 = true := by decide +kernel
theorem mD_78 : ck_t prog_1_method_14_code mT_78 = true := mD_78_0
theorem mO_78 : mC_78.all (ck_c lw_tbl (mi_ev []) mi_Gs mi_mq mi_fr mi_lo 78 "SafeCode") = true := by decide +kernel
theorem mQ_78 : ck_q lw_tbl mi_cl mG_78 0 2 11 [248, 1839, 93] = true := by decide +kernel
set_option maxRecDepth 100000 in
theorem mW_78 : Cond.code ⟨"SafeCode", "valueAt", "(II)J"⟩ prog_1_method_14_code 4 (some .long) ∈ lw_tbl.filter goodWord := mI_tables_1_7 (List.mem_of_getElem? (i := 153) rfl) rfl
theorem mD_79_0 : ck_t prog_1_method_26_code mT_79_0 = true := by decide +kernel
theorem mD_79 : ck_t prog_1_method_26_code mT_79 = true := mD_79_0
theorem mO_79 : mC_79.all (ck_c lw_tbl (mi_ev []) mi_Gs mi_mq mi_fr mi_lo 79 "SafeCode") = true := by decide +kernel
theorem mQ_79 : ck_q lw_tbl mi_cl mG_79 0 0 11 [248, 2040, 2041] = true := by decide +kernel
set_option maxRecDepth 100000 in
theorem mW_79 : Cond.code ⟨"SafeCode", "written", "()I"⟩ prog_1_method_26_code 1 (some .int) ∈ lw_tbl.filter goodWord := mI_tables_1_8 (List.mem_of_getElem? (i := 115) rfl) rfl
theorem mD_80_0 : ck_t prog_15_method_1_code mT_80_0 = true := by decide +kernel
theorem mD_80_1 : ck_t prog_15_method_1_code mT_80_1 = true := by decide +kernel
theorem mD_80_2 : ck_t prog_15_method_1_code mT_80_2 = true := by decide +kernel
theorem mD_80_3 : ck_t prog_15_method_1_code mT_80_3 = true := by decide +kernel
theorem mD_80_4 : ck_t prog_15_method_1_code mT_80_4 = true := by decide +kernel
theorem mD_80 : ck_t prog_15_method_1_code mT_80 = true := ck_t_app mD_80_0 (ck_t_app mD_80_1 (ck_t_app mD_80_2 (ck_t_app mD_80_3 mD_80_4)))
theorem mO_80 : mC_80.all (ck_c lw_tbl (mi_ev []) mi_Gs mi_mq mi_fr mi_lo 80 "SafeCodeModel$Program") = true := by decide +kernel
theorem mQ_80 : ck_q lw_tbl mi_cl mG_80 1 0 0 [266, 2060] = true := by decide +kernel
set_option maxRecDepth 100000 in
theorem mW_80 : Cond.code ⟨"SafeCodeModel$Program", "<init>", "()V"⟩ prog_15_method_1_code 1 (none) ∈ lw_tbl.filter goodWord := mI_tables_1_8 (List.mem_of_getElem? (i := 134) rfl) rfl
