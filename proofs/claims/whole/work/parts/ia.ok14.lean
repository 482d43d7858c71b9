/-! Checks of methods. -/
theorem mD_81_0 : ck_t prog_14_method_59_code mT_81_0 = true := by decide +kernel
theorem mD_81 : ck_t prog_14_method_59_code mT_81 = true := mD_81_0
theorem mO_81 : mC_81.all (ck_c lw_tbl (mi_ev []) mi_Gs mi_mq mi_fr mi_lo 81 "SafeCodeModel") = true := by decide +kernel
theorem mQ_81 : ck_q lw_tbl mi_cl mG_81 0 2 13 [265, 2719, 175] = true := by decide +kernel
set_option maxRecDepth 100000 in
theorem mW_81 : Cond.code ⟨"SafeCodeModel", "added", "(II)Z"⟩ prog_14_method_59_code 4 (some .boolean) ∈ lw_tbl.filter goodWord := mI_tables_1_11 (List.mem_of_getElem? (i := 73) rfl) rfl
theorem mD_82_0 : ck_t prog_14_method_100_code mT_82_0 = true := by decide +kernel
theorem mD_82_1 : ck_t prog_14_method_100_code mT_82_1 = true := by decide +kernel
theorem mD_82_2 : ck_t prog_14_method_100_code mT_82_2 = true := by decide +kernel
theorem mD_82 : ck_t prog_14_method_100_code mT_82 = true := ck_t_app mD_82_0 (ck_t_app mD_82_1 mD_82_2)
theorem mO_82 : mC_82.all (ck_c lw_tbl (mi_ev []) mi_Gs mi_mq mi_fr mi_lo 82 "SafeCodeModel") = true := by decide +kernel
theorem mQ_82 : ck_q lw_tbl mi_cl mG_82 0 2 13 [265, 2835, 194] = true := by decide +kernel
set_option maxRecDepth 100000 in
theorem mW_82 : Cond.code ⟨"SafeCodeModel", "alike", "(II)Z"⟩ prog_14_method_100_code 5 (some .boolean) ∈ lw_tbl.filter goodWord := mI_tables_1_11 (List.mem_of_getElem? (i := 189) rfl) rfl
theorem mD_83_0 : ck_t prog_14_method_9_code mT_83_0 = true := by decide +kernel
theorem mD_83 : ck_t prog_14_method_9_code mT_83 = true := mD_83_0
theorem mO_83 : mC_83.all (ck_c lw_tbl (mi_ev []) mi_Gs mi_mq mi_fr mi_lo 83 "SafeCodeModel") = true := by decide +kernel
theorem mQ_83 : ck_q lw_tbl mi_cl mG_83 0 3 13 [265, 2563, 141] = true := by decide +kernel
set_option maxRecDepth 100000 in
theorem mW_83 : Cond.code ⟨"SafeCodeModel", "among", "(IILjava/lang/String;)I"⟩ prog_14_method_9_code 9 (some .int) ∈ lw_tbl.filter goodWord := mI_tables_1_10 (List.mem_of_getElem? (i := 157) rfl) rfl
theorem mD_84_0 : ck_t prog_14_method_101_code mT_84_0 = true := by decide +kernel
theorem mD_84 : ck_t prog_14_method_101_code mT_84 = true := mD_84_0
theorem mO_84 : mC_84.all (ck_c lw_tbl (mi_ev []) mi_Gs mi_mq mi_fr mi_lo 84 "SafeCodeModel") = true := by decide +kernel
theorem mQ_84 : ck_q lw_tbl mi_cl mG_84 0 3 13 [265, 2839, 195] = true := by decide +kernel
set_option maxRecDepth 100000 in
theorem mW_84 : Cond.code ⟨"SafeCodeModel", "apart", "(LSafeCodeModel$Program;II)Z"⟩ prog_14_method_101_code 8 (some .boolean) ∈ lw_tbl.filter goodWord := mI_tables_1_11 (List.mem_of_getElem? (i := 193) rfl) rfl
theorem mD_85_0 : ck_t prog_14_method_75_code mT_85_0 = true := by decide +kernel
theorem mD_85 : ck_t prog_14_method_75_code mT_85 = true := mD_85_0
theorem mO_85 : mC_85.all (ck_c lw_tbl (mi_ev []) mi_Gs mi_mq mi_fr mi_lo 85 "SafeCodeModel") = true := by decide +kernel
theorem mQ_85 : ck_q lw_tbl mi_cl mG_85 0 3 13 [265, 2778, 183] = true := by decide +kernel
set_option maxRecDepth 100000 in
theorem mW_85 : Cond.code ⟨"SafeCodeModel", "areArguments", "(LSafeCodeModel$Program;II)Z"⟩ prog_14_method_75_code 7 (some .boolean) ∈ lw_tbl.filter goodWord := mI_tables_1_11 (List.mem_of_getElem? (i := 132) rfl) rfl
theorem mD_86_0 : ck_t prog_14_method_93_code mT_86_0 = true := by decide +kernel
theorem mD_86 : ck_t prog_14_method_93_code mT_86 = true := mD_86_0
theorem mO_86 : mC_86.all (ck_c lw_tbl (mi_ev []) mi_Gs mi_mq mi_fr mi_lo 86 "SafeCodeModel") = true := by decide +kernel
theorem mQ_86 : ck_q lw_tbl mi_cl mG_86 0 2 13 [265, 2786, 185] = true := by decide +kernel
set_option maxRecDepth 100000 in
theorem mW_86 : Cond.code ⟨"SafeCodeModel", "begin", "(LSafeCodeModel$Program;I)V"⟩ prog_14_method_93_code 5 (none) ∈ lw_tbl.filter goodWord := mI_tables_1_11 (List.mem_of_getElem? (i := 140) rfl) rfl
