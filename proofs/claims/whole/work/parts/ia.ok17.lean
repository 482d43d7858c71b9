/-! Checks of methods. -/
theorem mD_96_0 : ck_t prog_14_method_104_code mT_96_0 = true := by decide +kernel
theorem mD_96 : ck_t prog_14_method_104_code mT_96 = true := mD_96_0
theorem mO_96 : mC_96.all (ck_c lw_tbl (mi_ev []) mi_Gs mi_mq mi_fr mi_lo 96 "SafeCodeModel") = true := by decide +kernel
theorem mQ_96 : ck_q lw_tbl mi_cl mG_96 0 1 13 [265, 2880, 204] = true := by decide +kernel
set_option maxRecDepth 100000 in
theorem mW_96 : Cond.code ⟨"SafeCodeModel", "changing", "(I)V"⟩ prog_14_method_104_code 4 (none) ∈ lw_tbl.filter goodWord := mI_tables_1_11 (List.mem_of_getElem? (i := 234) rfl) rfl
theorem mD_97_0 : ck_t prog_14_method_25_code mT_97_0 = true := by decide +kernel
theorem mD_97 : ck_t prog_14_method_25_code mT_97 = true := mD_97_0
theorem mO_97 : mC_97.all (ck_c lw_tbl (mi_ev []) mi_Gs mi_mq mi_fr mi_lo 97 "SafeCodeModel") = true := by decide +kernel
theorem mQ_97 : ck_q lw_tbl mi_cl mG_97 0 1 13 [265, 2590, 147] = true := by decide +kernel
set_option maxRecDepth 100000 in
theorem mW_97 : Cond.code ⟨"SafeCodeModel", "classCount", "(LSafeCodeModel$Program;)I"⟩ prog_14_method_25_code 2 (some .int) ∈ lw_tbl.filter goodWord := mI_tables_1_10 (List.mem_of_getElem? (i := 184) rfl) rfl
theorem mD_98_0 : ck_t prog_14_method_33_code mT_98_0 = true := by decide +kernel
theorem mD_98 : ck_t prog_14_method_33_code mT_98 = true := mD_98_0
theorem mO_98 : mC_98.all (ck_c lw_tbl (mi_ev []) mi_Gs mi_mq mi_fr mi_lo 98 "SafeCodeModel") = true := by decide +kernel
theorem mQ_98 : ck_q lw_tbl mi_cl mG_98 0 1 13 [265, 2577, 144] = true := by decide +kernel
set_option maxRecDepth 100000 in
theorem mW_98 : Cond.code ⟨"SafeCodeModel", "classNames", "(LSafeCodeModel$Program;)Z"⟩ prog_14_method_33_code 4 (some .boolean) ∈ lw_tbl.filter goodWord := mI_tables_1_10 (List.mem_of_getElem? (i := 171) rfl) rfl
theorem mD_99_0 : ck_t prog_14_method_26_code mT_99_0 = true := by decide +kernel
theorem mD_99 : ck_t prog_14_method_26_code mT_99 = true := mD_99_0
theorem mO_99 : mC_99.all (ck_c lw_tbl (mi_ev []) mi_Gs mi_mq mi_fr mi_lo 99 "SafeCodeModel") = true := by decide +kernel
theorem mQ_99 : ck_q lw_tbl mi_cl mG_99 0 3 13 [265, 2585, 146] = true := by decide +kernel
set_option maxRecDepth 100000 in
theorem mW_99 : Cond.code ⟨"SafeCodeModel", "classOf", "(LSafeCodeModel$Program;II)I"⟩ prog_14_method_26_code 6 (some .int) ∈ lw_tbl.filter goodWord := mI_tables_1_10 (List.mem_of_getElem? (i := 179) rfl) rfl
theorem mD_100_0 : ck_t prog_14_method_27_code mT_100_0 = true := by decide +kernel
theorem mD_100 : ck_t prog_14_method_27_code mT_100 = true := mD_100_0
theorem mO_100 : mC_100.all (ck_c lw_tbl (mi_ev []) mi_Gs mi_mq mi_fr mi_lo 100 "SafeCodeModel") = true := by decide +kernel
theorem mQ_100 : ck_q lw_tbl mi_cl mG_100 0 2 13 [265, 2581, 145] = true := by decide +kernel
set_option maxRecDepth 100000 in
theorem mW_100 : Cond.code ⟨"SafeCodeModel", "classOfToken", "(LSafeCodeModel$Program;I)I"⟩ prog_14_method_27_code 3 (some .int) ∈ lw_tbl.filter goodWord := mI_tables_1_10 (List.mem_of_getElem? (i := 175) rfl) rfl
theorem mD_101_0 : ck_t prog_14_method_76_code mT_101_0 = true := by decide +kernel
theorem mD_101 : ck_t prog_14_method_76_code mT_101 = true := mD_101_0
theorem mO_101 : mC_101.all (ck_c lw_tbl (mi_ev []) mi_Gs mi_mq mi_fr mi_lo 101 "SafeCodeModel") = true := by decide +kernel
theorem mQ_101 : ck_q lw_tbl mi_cl mG_101 0 1 13 [265, 2790, 186] = true := by decide +kernel
set_option maxRecDepth 100000 in
theorem mW_101 : Cond.code ⟨"SafeCodeModel", "clear", "(I)V"⟩ prog_14_method_76_code 2 (none) ∈ lw_tbl.filter goodWord := mI_tables_1_11 (List.mem_of_getElem? (i := 144) rfl) rfl
