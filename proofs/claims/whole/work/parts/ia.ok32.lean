/-! Checks of methods. -/
theorem mD_177_0 : ck_t prog_14_method_90_code mT_177_0 = true := by decide +kernel
theorem mD_177_1 : ck_t prog_14_method_90_code mT_177_1 = true := by decide +kernel
theorem mD_177_2 : ck_t prog_14_method_90_code mT_177_2 = true := by decide +kernel
theorem mD_177 : ck_t prog_14_method_90_code mT_177 = true := ck_t_app mD_177_0 (ck_t_app mD_177_1 mD_177_2)
theorem mO_177 : mC_177.all (ck_c lw_tbl (mi_ev []) mi_Gs mi_mq mi_fr mi_lo 177 "SafeCodeModel") = true := by decide +kernel
theorem mQ_177 : ck_q lw_tbl mi_cl mG_177 0 4 13 [265, 2912, 212] = true := by decide +kernel
set_option maxRecDepth 100000 in
theorem mW_177 : Cond.code ⟨"SafeCodeModel", "leaveValues", "(LSafeCodeModel$Program;IIJ)Z"⟩ prog_14_method_90_code 9 (some .boolean) ∈ lw_tbl.filter goodWord := mI_tables_1_12 (List.mem_of_getElem? (i := 26) rfl) rfl
theorem mD_178_0 : ck_t prog_14_method_54_code mT_178_0 = true := by decide +kernel
theorem mD_178 : ck_t prog_14_method_54_code mT_178 = true := mD_178_0
theorem mO_178 : mC_178.all (ck_c lw_tbl (mi_ev []) mi_Gs mi_mq mi_fr mi_lo 178 "SafeCodeModel") = true := by decide +kernel
theorem mQ_178 : ck_q lw_tbl mi_cl mG_178 3 2 0 [265, 2712] = true := by decide +kernel
set_option maxRecDepth 100000 in
theorem mW_178 : Cond.code ⟨"SafeCodeModel", "leaves", "(LSafeCodeModel$Program;I)I"⟩ prog_14_method_54_code 3 (some .int) ∈ lw_tbl.filter goodWord := mI_tables_1_11 (List.mem_of_getElem? (i := 66) rfl) rfl
theorem mD_179_0 : ck_t prog_14_method_115_code mT_179_0 = true := by decide +kernel
theorem mD_179 : ck_t prog_14_method_115_code mT_179 = true := mD_179_0
theorem mO_179 : mC_179.all (ck_c lw_tbl (mi_ev []) mi_Gs mi_mq mi_fr mi_lo 179 "SafeCodeModel") = true := by decide +kernel
theorem mQ_179 : ck_q lw_tbl mi_cl mG_179 0 1 13 [265, 2904, 210] = true := by decide +kernel
set_option maxRecDepth 100000 in
theorem mW_179 : Cond.code ⟨"SafeCodeModel", "lengthOf", "(LSafeCodeModel$Program;)Z"⟩ prog_14_method_115_code 7 (some .boolean) ∈ lw_tbl.filter goodWord := mI_tables_1_12 (List.mem_of_getElem? (i := 18) rfl) rfl
theorem mD_180_0 : ck_t prog_14_method_135_code mT_180_0 = true := by decide +kernel
theorem mD_180 : ck_t prog_14_method_135_code mT_180 = true := mD_180_0
theorem mO_180 : mC_180.all (ck_c lw_tbl (mi_ev []) mi_Gs mi_mq mi_fr mi_lo 180 "SafeCodeModel") = true := by decide +kernel
theorem mQ_180 : ck_q lw_tbl mi_cl mG_180 0 2 13 [265, 3018, 3019] = true := by decide +kernel
set_option maxRecDepth 100000 in
theorem mW_180 : Cond.code ⟨"SafeCodeModel", "lengths", "(II)I"⟩ prog_14_method_135_code 3 (some .int) ∈ lw_tbl.filter goodWord := mI_tables_1_12 (List.mem_of_getElem? (i := 133) rfl) rfl
theorem mD_181_0 : ck_t prog_14_method_41_code mT_181_0 = true := by decide +kernel
theorem mD_181 : ck_t prog_14_method_41_code mT_181 = true := mD_181_0
theorem mO_181 : mC_181.all (ck_c lw_tbl (mi_ev []) mi_Gs mi_mq mi_fr mi_lo 181 "SafeCodeModel") = true := by decide +kernel
theorem mQ_181 : ck_q lw_tbl mi_cl mG_181 0 1 13 [265, 2654, 162] = true := by decide +kernel
set_option maxRecDepth 100000 in
theorem mW_181 : Cond.code ⟨"SafeCodeModel", "lineLength", "(I)I"⟩ prog_14_method_41_code 3 (some .int) ∈ lw_tbl.filter goodWord := mI_tables_1_11 (List.mem_of_getElem? (i := 8) rfl) rfl
theorem mD_182_0 : ck_t prog_14_method_40_code mT_182_0 = true := by decide +kernel
theorem mD_182 : ck_t prog_14_method_40_code mT_182 = true := mD_182_0
theorem mO_182 : mC_182.all (ck_c lw_tbl (mi_ev []) mi_Gs mi_mq mi_fr mi_lo 182 "SafeCodeModel") = true := by decide +kernel
theorem mQ_182 : ck_q lw_tbl mi_cl mG_182 0 1 13 [265, 2646, 160] = true := by decide +kernel
set_option maxRecDepth 100000 in
theorem mW_182 : Cond.code ⟨"SafeCodeModel", "lines", "(LSafeCodeModel$Program;)Z"⟩ prog_14_method_40_code 3 (some .boolean) ∈ lw_tbl.filter goodWord := mI_tables_1_11 (List.mem_of_getElem? (i := 0) rfl) rfl
