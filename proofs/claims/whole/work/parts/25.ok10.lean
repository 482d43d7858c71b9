/-! Checks of methods. -/
theorem mD_56_0 : ck_t prog_14_method_5_code mT_56_0 = true := by decide +kernel
theorem mD_56_1 : ck_t prog_14_method_5_code mT_56_1 = true := by decide +kernel
theorem mD_56_2 : ck_t prog_14_method_5_code mT_56_2 = true := by decide +kernel
theorem mD_56_3 : ck_t prog_14_method_5_code mT_56_3 = true := by decide +kernel
theorem mD_56 : ck_t prog_14_method_5_code mT_56 = true := ck_t_app mD_56_0 (ck_t_app mD_56_1 (ck_t_app mD_56_2 mD_56_3))
theorem mO_56 : mC_56.all (ck_c lw_tbl (mi_ev []) mi_Gs mi_mq mi_fr mi_lo 56 "SafeCodeModel") = true := by decide +kernel
theorem mQ_56 : ck_q lw_tbl mi_cl mG_56 0 0 13 [265, 2484, 126] = true := by decide +kernel
set_option maxRecDepth 100000 in
theorem mW_56 : Cond.code ⟨"SafeCodeModel", "cut", "()Z"⟩ prog_14_method_5_code 7 (some .boolean) ∈ lw_tbl.filter goodWord := mI_tables_1_10 (List.mem_of_getElem? (i := 78) rfl) rfl
theorem mD_57_0 : ck_t prog_14_method_4_code mT_57_0 = true := by decide +kernel
theorem mD_57 : ck_t prog_14_method_4_code mT_57 = true := mD_57_0
theorem mO_57 : mC_57.all (ck_c lw_tbl (mi_ev []) mi_Gs mi_mq mi_fr mi_lo 57 "SafeCodeModel") = true := by decide +kernel
theorem mQ_57 : ck_q lw_tbl mi_cl mG_57 0 1 13 [265, 2471, 2472] = true := by decide +kernel
set_option maxRecDepth 100000 in
theorem mW_57 : Cond.code ⟨"SafeCodeModel", "end", "(I)Z"⟩ prog_14_method_4_code 3 (some .boolean) ∈ lw_tbl.filter goodWord := mI_tables_1_10 (List.mem_of_getElem? (i := 66) rfl) rfl
theorem mD_58_0 : ck_t prog_14_method_128_code mT_58_0 = true := by decide +kernel
theorem mD_58 : ck_t prog_14_method_128_code mT_58 = true := mD_58_0
theorem mO_58 : mC_58.all (ck_c lw_tbl (mi_ev []) mi_Gs mi_mq mi_fr mi_lo 58 "SafeCodeModel") = true := by decide +kernel
theorem mQ_58 : ck_q lw_tbl mi_cl mG_58 0 0 13 [265, 2989, 2990] = true := by decide +kernel
set_option maxRecDepth 100000 in
theorem mW_58 : Cond.code ⟨"SafeCodeModel", "ends", "()J"⟩ prog_14_method_128_code 1 (some .long) ∈ lw_tbl.filter goodWord := mI_tables_1_12 (List.mem_of_getElem? (i := 104) rfl) rfl
theorem mD_59_0 : ck_t prog_14_method_126_code mT_59_0 = true := by decide +kernel
theorem mD_59 : ck_t prog_14_method_126_code mT_59 = true := mD_59_0
theorem mO_59 : mC_59.all (ck_c lw_tbl (mi_ev []) mi_Gs mi_mq mi_fr mi_lo 59 "SafeCodeModel") = true := by decide +kernel
theorem mQ_59 : ck_q lw_tbl mi_cl mG_59 0 1 13 [265, 2977, 2978] = true := by decide +kernel
set_option maxRecDepth 100000 in
theorem mW_59 : Cond.code ⟨"SafeCodeModel", "errors", "(I)I"⟩ prog_14_method_126_code 2 (some .int) ∈ lw_tbl.filter goodWord := mI_tables_1_12 (List.mem_of_getElem? (i := 92) rfl) rfl
theorem mD_60_0 : ck_t prog_14_method_127_code mT_60_0 = true := by decide +kernel
theorem mD_60 : ck_t prog_14_method_127_code mT_60 = true := mD_60_0
theorem mO_60 : mC_60.all (ck_c lw_tbl (mi_ev []) mi_Gs mi_mq mi_fr mi_lo 60 "SafeCodeModel") = true := by decide +kernel
theorem mQ_60 : ck_q lw_tbl mi_cl mG_60 0 1 13 [265, 2985, 2986] = true := by decide +kernel
set_option maxRecDepth 100000 in
theorem mW_60 : Cond.code ⟨"SafeCodeModel", "escapes", "(I)J"⟩ prog_14_method_127_code 2 (some .long) ∈ lw_tbl.filter goodWord := mI_tables_1_12 (List.mem_of_getElem? (i := 100) rfl) rfl
theorem mD_61_0 : ck_t prog_14_method_134_code mT_61_0 = true := by decide +kernel
theorem mD_61 : ck_t prog_14_method_134_code mT_61 = true := mD_61_0
theorem mO_61 : mC_61.all (ck_c lw_tbl (mi_ev []) mi_Gs mi_mq mi_fr mi_lo 61 "SafeCodeModel") = true := by decide +kernel
theorem mQ_61 : ck_q lw_tbl mi_cl mG_61 0 3 13 [265, 3014, 3015] = true := by decide +kernel
set_option maxRecDepth 100000 in
theorem mW_61 : Cond.code ⟨"SafeCodeModel", "fact", "(III)I"⟩ prog_14_method_134_code 5 (some .int) ∈ lw_tbl.filter goodWord := mI_tables_1_12 (List.mem_of_getElem? (i := 129) rfl) rfl
