/-! Checks of methods. -/
theorem mD_188_0 : ck_t prog_14_method_131_code mT_188_0 = true := by decide +kernel
theorem mD_188 : ck_t prog_14_method_131_code mT_188 = true := mD_188_0
theorem mO_188 : mC_188.all (ck_c lw_tbl (mi_ev []) mi_Gs mi_mq mi_fr mi_lo 188 "SafeCodeModel") = true := by decide +kernel
theorem mQ_188 : ck_q lw_tbl mi_cl mG_188 0 2 13 [265, 3001, 3002] = true := by decide +kernel
set_option maxRecDepth 100000 in
theorem mW_188 : Cond.code ⟨"SafeCodeModel", "low", "(II)I"⟩ prog_14_method_131_code 3 (some .int) ∈ lw_tbl.filter goodWord := mI_tables_1_12 (List.mem_of_getElem? (i := 116) rfl) rfl
theorem mD_189_0 : ck_t prog_14_method_112_code mT_189_0 = true := by decide +kernel
theorem mD_189 : ck_t prog_14_method_112_code mT_189 = true := mD_189_0
theorem mO_189 : mC_189.all (ck_c lw_tbl (mi_ev []) mi_Gs mi_mq mi_fr mi_lo 189 "SafeCodeModel") = true := by decide +kernel
theorem mQ_189 : ck_q lw_tbl mi_cl mG_189 0 2 13 [265, 2884, 205] = true := by decide +kernel
set_option maxRecDepth 100000 in
theorem mW_189 : Cond.code ⟨"SafeCodeModel", "made", "(LSafeCodeModel$Program;I)Z"⟩ prog_14_method_112_code 5 (some .boolean) ∈ lw_tbl.filter goodWord := mI_tables_1_11 (List.mem_of_getElem? (i := 238) rfl) rfl
theorem mD_190_0 : ck_t prog_14_method_113_code mT_190_0 = true := by decide +kernel
theorem mD_190 : ck_t prog_14_method_113_code mT_190 = true := mD_190_0
theorem mO_190 : mC_190.all (ck_c lw_tbl (mi_ev []) mi_Gs mi_mq mi_fr mi_lo 190 "SafeCodeModel") = true := by decide +kernel
theorem mQ_190 : ck_q lw_tbl mi_cl mG_190 0 2 13 [265, 2900, 209] = true := by decide +kernel
set_option maxRecDepth 100000 in
theorem mW_190 : Cond.code ⟨"SafeCodeModel", "madeArray", "(LSafeCodeModel$Program;I)Z"⟩ prog_14_method_113_code 4 (some .boolean) ∈ lw_tbl.filter goodWord := mI_tables_1_12 (List.mem_of_getElem? (i := 14) rfl) rfl
theorem mD_191_0 : ck_t prog_14_method_48_code mT_191_0 = true := by decide +kernel
theorem mD_191 : ck_t prog_14_method_48_code mT_191 = true := mD_191_0
theorem mO_191 : mC_191.all (ck_c lw_tbl (mi_ev []) mi_Gs mi_mq mi_fr mi_lo 191 "SafeCodeModel") = true := by decide +kernel
theorem mQ_191 : ck_q lw_tbl mi_cl mG_191 0 4 13 [265, 2686, 170] = true := by decide +kernel
set_option maxRecDepth 100000 in
theorem mW_191 : Cond.code ⟨"SafeCodeModel", "madeStep", "(LSafeCodeModel$Program;III)Z"⟩ prog_14_method_48_code 6 (some .boolean) ∈ lw_tbl.filter goodWord := mI_tables_1_11 (List.mem_of_getElem? (i := 40) rfl) rfl
theorem mD_192_0 : ck_t prog_14_method_158_code mT_192_0 = true := by decide +kernel
theorem mD_192_1 : ck_t prog_14_method_158_code mT_192_1 = true := by decide +kernel
theorem mD_192_2 : ck_t prog_14_method_158_code mT_192_2 = true := by decide +kernel
theorem mD_192 : ck_t prog_14_method_158_code mT_192 = true := ck_t_app mD_192_0 (ck_t_app mD_192_1 mD_192_2)
theorem mO_192 : mC_192.all (ck_c lw_tbl (mi_ev []) mi_Gs mi_mq mi_fr mi_lo 192 "SafeCodeModel") = true := by decide +kernel
theorem mQ_192 : ck_q lw_tbl mi_cl mG_192 0 3 13 [265, 3110, 244] = true := by decide +kernel
set_option maxRecDepth 100000 in
theorem mW_192 : Cond.code ⟨"SafeCodeModel", "make", "(III)V"⟩ prog_14_method_158_code 10 (none) ∈ lw_tbl.filter goodWord := mI_tables_1_12 (List.mem_of_getElem? (i := 224) rfl) rfl
theorem mD_193_0 : ck_t prog_14_method_36_code mT_193_0 = true := by decide +kernel
theorem mD_193 : ck_t prog_14_method_36_code mT_193 = true := mD_193_0
theorem mO_193 : mC_193.all (ck_c lw_tbl (mi_ev []) mi_Gs mi_mq mi_fr mi_lo 193 "SafeCodeModel") = true := by decide +kernel
theorem mQ_193 : ck_q lw_tbl mi_cl mG_193 0 1 13 [265, 2606, 151] = true := by decide +kernel
set_option maxRecDepth 100000 in
theorem mW_193 : Cond.code ⟨"SafeCodeModel", "members", "(LSafeCodeModel$Program;)Z"⟩ prog_14_method_36_code 4 (some .boolean) ∈ lw_tbl.filter goodWord := mI_tables_1_10 (List.mem_of_getElem? (i := 200) rfl) rfl
