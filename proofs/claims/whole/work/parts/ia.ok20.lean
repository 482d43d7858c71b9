/-! Checks of methods. -/
theorem mD_112_0 : ck_t prog_14_method_128_code mT_112_0 = true := by decide +kernel
theorem mD_112 : ck_t prog_14_method_128_code mT_112 = true := mD_112_0
theorem mO_112 : mC_112.all (ck_c lw_tbl (mi_ev []) mi_Gs mi_mq mi_fr mi_lo 112 "SafeCodeModel") = true := by decide +kernel
theorem mQ_112 : ck_q lw_tbl mi_cl mG_112 0 0 13 [265, 2989, 2990] = true := by decide +kernel
set_option maxRecDepth 100000 in
theorem mW_112 : Cond.code ⟨"SafeCodeModel", "ends", "()J"⟩ prog_14_method_128_code 1 (some .long) ∈ lw_tbl.filter goodWord := mI_tables_1_12 (List.mem_of_getElem? (i := 104) rfl) rfl
theorem mD_113_0 : ck_t prog_14_method_138_code mT_113_0 = true := by decide +kernel
theorem mD_113 : ck_t prog_14_method_138_code mT_113 = true := mD_113_0
theorem mO_113 : mC_113.all (ck_c lw_tbl (mi_ev []) mi_Gs mi_mq mi_fr mi_lo 113 "SafeCodeModel") = true := by decide +kernel
theorem mQ_113 : ck_q lw_tbl mi_cl mG_113 0 1 13 [265, 3031, 227] = true := by decide +kernel
set_option maxRecDepth 100000 in
theorem mW_113 : Cond.code ⟨"SafeCodeModel", "enter", "(I)V"⟩ prog_14_method_138_code 3 (none) ∈ lw_tbl.filter goodWord := mI_tables_1_12 (List.mem_of_getElem? (i := 145) rfl) rfl
theorem mD_114_0 : ck_t prog_14_method_126_code mT_114_0 = true := by decide +kernel
theorem mD_114 : ck_t prog_14_method_126_code mT_114 = true := mD_114_0
theorem mO_114 : mC_114.all (ck_c lw_tbl (mi_ev []) mi_Gs mi_mq mi_fr mi_lo 114 "SafeCodeModel") = true := by decide +kernel
theorem mQ_114 : ck_q lw_tbl mi_cl mG_114 0 1 13 [265, 2977, 2978] = true := by decide +kernel
set_option maxRecDepth 100000 in
theorem mW_114 : Cond.code ⟨"SafeCodeModel", "errors", "(I)I"⟩ prog_14_method_126_code 2 (some .int) ∈ lw_tbl.filter goodWord := mI_tables_1_12 (List.mem_of_getElem? (i := 92) rfl) rfl
theorem mD_115_0 : ck_t prog_14_method_127_code mT_115_0 = true := by decide +kernel
theorem mD_115 : ck_t prog_14_method_127_code mT_115 = true := mD_115_0
theorem mO_115 : mC_115.all (ck_c lw_tbl (mi_ev []) mi_Gs mi_mq mi_fr mi_lo 115 "SafeCodeModel") = true := by decide +kernel
theorem mQ_115 : ck_q lw_tbl mi_cl mG_115 0 1 13 [265, 2985, 2986] = true := by decide +kernel
set_option maxRecDepth 100000 in
theorem mW_115 : Cond.code ⟨"SafeCodeModel", "escapes", "(I)J"⟩ prog_14_method_127_code 2 (some .long) ∈ lw_tbl.filter goodWord := mI_tables_1_12 (List.mem_of_getElem? (i := 100) rfl) rfl
theorem mD_116_0 : ck_t prog_14_method_134_code mT_116_0 = true := by decide +kernel
theorem mD_116 : ck_t prog_14_method_134_code mT_116 = true := mD_116_0
theorem mO_116 : mC_116.all (ck_c lw_tbl (mi_ev []) mi_Gs mi_mq mi_fr mi_lo 116 "SafeCodeModel") = true := by decide +kernel
theorem mQ_116 : ck_q lw_tbl mi_cl mG_116 0 3 13 [265, 3014, 3015] = true := by decide +kernel
set_option maxRecDepth 100000 in
theorem mW_116 : Cond.code ⟨"SafeCodeModel", "fact", "(III)I"⟩ prog_14_method_134_code 5 (some .int) ∈ lw_tbl.filter goodWord := mI_tables_1_12 (List.mem_of_getElem? (i := 129) rfl) rfl
theorem mD_117_0 : ck_t prog_14_method_121_code mT_117_0 = true := by decide +kernel
theorem mD_117 : ck_t prog_14_method_121_code mT_117 = true := mD_117_0
theorem mO_117 : mC_117.all (ck_c lw_tbl (mi_ev []) mi_Gs mi_mq mi_fr mi_lo 117 "SafeCodeModel") = true := by decide +kernel
theorem mQ_117 : ck_q lw_tbl mi_cl mG_117 0 1 13 [265, 2480, 125] = true := by decide +kernel
set_option maxRecDepth 100000 in
theorem mW_117 : Cond.code ⟨"SafeCodeModel", "fault", "(LSafeCodeModel$Program;)I"⟩ prog_14_method_121_code 3 (some .int) ∈ lw_tbl.filter goodWord := mI_tables_1_10 (List.mem_of_getElem? (i := 74) rfl) rfl
