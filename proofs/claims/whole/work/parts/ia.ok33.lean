/-! Checks of methods. -/
theorem mD_183_0 : ck_t prog_14_method_42_code mT_183_0 = true := by decide +kernel
theorem mD_183_1 : ck_t prog_14_method_42_code mT_183_1 = true := by decide +kernel
theorem mD_183_2 : ck_t prog_14_method_42_code mT_183_2 = true := by decide +kernel
theorem mD_183_3 : ck_t prog_14_method_42_code mT_183_3 = true := by decide +kernel
theorem mD_183_4 : ck_t prog_14_method_42_code mT_183_4 = true := by decide +kernel
theorem mD_183 : ck_t prog_14_method_42_code mT_183 = true := ck_t_app mD_183_0 (ck_t_app mD_183_1 (ck_t_app mD_183_2 (ck_t_app mD_183_3 mD_183_4)))
theorem mO_183 : mC_183.all (ck_c lw_tbl (mi_ev []) mi_Gs mi_mq mi_fr mi_lo 183 "SafeCodeModel") = true := by decide +kernel
theorem mQ_183 : ck_q lw_tbl mi_cl mG_183 0 2 13 [265, 2650, 161] = true := by decide +kernel
set_option maxRecDepth 100000 in
theorem mW_183 : Cond.code ⟨"SafeCodeModel", "linesOf", "(LSafeCodeModel$Program;I)Z"⟩ prog_14_method_42_code 9 (some .boolean) ∈ lw_tbl.filter goodWord := mI_tables_1_11 (List.mem_of_getElem? (i := 4) rfl) rfl
theorem mD_184_0 : ck_t prog_14_method_122_code mT_184_0 = true := by decide +kernel
theorem mD_184 : ck_t prog_14_method_122_code mT_184 = true := mD_184_0
theorem mO_184 : mC_184.all (ck_c lw_tbl (mi_ev []) mi_Gs mi_mq mi_fr mi_lo 184 "SafeCodeModel") = true := by decide +kernel
theorem mQ_184 : ck_q lw_tbl mi_cl mG_184 0 0 13 [265, 2475, 2476] = true := by decide +kernel
set_option maxRecDepth 100000 in
theorem mW_184 : Cond.code ⟨"SafeCodeModel", "load", "()I"⟩ prog_14_method_122_code 3 (some .int) ∈ lw_tbl.filter goodWord := mI_tables_1_10 (List.mem_of_getElem? (i := 70) rfl) rfl
theorem mD_185_0 : ck_t prog_14_method_139_code mT_185_0 = true := by decide +kernel
theorem mD_185 : ck_t prog_14_method_139_code mT_185 = true := mD_185_0
theorem mO_185 : mC_185.all (ck_c lw_tbl (mi_ev []) mi_Gs mi_mq mi_fr mi_lo 185 "SafeCodeModel") = true := by decide +kernel
theorem mQ_185 : ck_q lw_tbl mi_cl mG_185 0 1 13 [265, 3040, 229] = true := by decide +kernel
set_option maxRecDepth 100000 in
theorem mW_185 : Cond.code ⟨"SafeCodeModel", "local", "(I)J"⟩ prog_14_method_139_code 2 (some .long) ∈ lw_tbl.filter goodWord := mI_tables_1_12 (List.mem_of_getElem? (i := 154) rfl) rfl
theorem mD_186_0 : ck_t prog_14_method_47_code mT_186_0 = true := by decide +kernel
theorem mD_186 : ck_t prog_14_method_47_code mT_186 = true := mD_186_0
theorem mO_186 : mC_186.all (ck_c lw_tbl (mi_ev []) mi_Gs mi_mq mi_fr mi_lo 186 "SafeCodeModel") = true := by decide +kernel
theorem mQ_186 : ck_q lw_tbl mi_cl mG_186 0 4 13 [265, 2682, 169] = true := by decide +kernel
set_option maxRecDepth 100000 in
theorem mW_186 : Cond.code ⟨"SafeCodeModel", "localStep", "(LSafeCodeModel$Program;III)Z"⟩ prog_14_method_47_code 7 (some .boolean) ∈ lw_tbl.filter goodWord := mI_tables_1_11 (List.mem_of_getElem? (i := 36) rfl) rfl
theorem mD_187_0 : ck_t prog_14_method_94_code mT_187_0 = true := by decide +kernel
theorem mD_187_1 : ck_t prog_14_method_94_code mT_187_1 = true := by decide +kernel
theorem mD_187_2 : ck_t prog_14_method_94_code mT_187_2 = true := by decide +kernel
theorem mD_187_3 : ck_t prog_14_method_94_code mT_187_3 = true := by decide +kernel
theorem mD_187_4 : ck_t prog_14_method_94_code mT_187_4 = true := by decide +kernel
theorem mD_187_5 : ck_t prog_14_method_94_code mT_187_5 = true := by decide +kernel
theorem mD_187_6 : ck_t prog_14_method_94_code mT_187_6 = true := by decide +kernel
theorem mD_187 : ck_t prog_14_method_94_code mT_187 = true := ck_t_app mD_187_0 (ck_t_app mD_187_1 (ck_t_app mD_187_2 (ck_t_app mD_187_3 (ck_t_app mD_187_4 (ck_t_app mD_187_5 mD_187_6)))))
theorem mO_187_0 : ((mC_187.drop 0).take 8).all (ck_c lw_tbl (mi_ev []) mi_Gs mi_mq mi_fr mi_lo 187 "SafeCodeModel") = true := by decide +kernel
theorem mO_187_1 : ((mC_187.drop 8).take 8).all (ck_c lw_tbl (mi_ev []) mi_Gs mi_mq mi_fr mi_lo 187 "SafeCodeModel") = true := by decide +kernel
theorem mO_187 : mC_187.all (ck_c lw_tbl (mi_ev []) mi_Gs mi_mq mi_fr mi_lo 187 "SafeCodeModel") = true := by
  have e : mC_187 = (mC_187.drop 0).take 8 ++ (mC_187.drop 8).take 8 := by decide +kernel
  rw [e]
  simp only [List.all_append, mO_187_0, mO_187_1, Bool.and_true]
theorem mQ_187 : ck_q lw_tbl mi_cl mG_187 0 2 13 [265, 2805, 189] = true := by decide +kernel
set_option maxRecDepth 100000 in
theorem mW_187 : Cond.code ⟨"SafeCodeModel", "look", "(LSafeCodeModel$Program;I)V"⟩ prog_14_method_94_code 8 (none) ∈ lw_tbl.filter goodWord := mI_tables_1_11 (List.mem_of_getElem? (i := 159) rfl) rfl
