/-! Checks of methods. -/
theorem mD_149_0 : ck_t prog_14_method_142_code mT_149_0 = true := by decide +kernel
theorem mD_149 : ck_t prog_14_method_142_code mT_149 = true := mD_149_0
theorem mO_149 : mC_149.all (ck_c lw_tbl (mi_ev []) mi_Gs mi_mq mi_fr mi_lo 149 "SafeCodeModel") = true := by decide +kernel
theorem mQ_149 : ck_q lw_tbl mi_cl mG_149 3 1 0 [265, 3047] = true := by decide +kernel
set_option maxRecDepth 100000 in
theorem mW_149 : Cond.code ⟨"SafeCodeModel", "isInt", "(J)Z"⟩ prog_14_method_142_code 2 (some .boolean) ∈ lw_tbl.filter goodWord := mI_tables_1_12 (List.mem_of_getElem? (i := 161) rfl) rfl
theorem mD_150_0 : ck_t prog_14_method_22_code mT_150_0 = true := by decide +kernel
theorem mD_150 : ck_t prog_14_method_22_code mT_150 = true := mD_150_0
theorem mO_150 : mC_150.all (ck_c lw_tbl (mi_ev []) mi_Gs mi_mq mi_fr mi_lo 150 "SafeCodeModel") = true := by decide +kernel
theorem mQ_150 : ck_q lw_tbl mi_cl mG_150 0 1 13 [265, 2552, 139] = true := by decide +kernel
set_option maxRecDepth 100000 in
theorem mW_150 : Cond.code ⟨"SafeCodeModel", "isLabel", "(I)Z"⟩ prog_14_method_22_code 2 (some .boolean) ∈ lw_tbl.filter goodWord := mI_tables_1_10 (List.mem_of_getElem? (i := 146) rfl) rfl
theorem mD_151_0 : ck_t prog_14_method_24_code mT_151_0 = true := by decide +kernel
theorem mD_151_1 : ck_t prog_14_method_24_code mT_151_1 = true := by decide +kernel
theorem mD_151_2 : ck_t prog_14_method_24_code mT_151_2 = true := by decide +kernel
theorem mD_151_3 : ck_t prog_14_method_24_code mT_151_3 = true := by decide +kernel
theorem mD_151_4 : ck_t prog_14_method_24_code mT_151_4 = true := by decide +kernel
theorem mD_151 : ck_t prog_14_method_24_code mT_151 = true := ck_t_app mD_151_0 (ck_t_app mD_151_1 (ck_t_app mD_151_2 (ck_t_app mD_151_3 mD_151_4)))
theorem mO_151_0 : ((mC_151.drop 0).take 8).all (ck_c lw_tbl (mi_ev []) mi_Gs mi_mq mi_fr mi_lo 151 "SafeCodeModel") = true := by decide +kernel
theorem mO_151_1 : ((mC_151.drop 8).take 8).all (ck_c lw_tbl (mi_ev []) mi_Gs mi_mq mi_fr mi_lo 151 "SafeCodeModel") = true := by decide +kernel
theorem mO_151 : mC_151.all (ck_c lw_tbl (mi_ev []) mi_Gs mi_mq mi_fr mi_lo 151 "SafeCodeModel") = true := by
  have e : mC_151 = (mC_151.drop 0).take 8 ++ (mC_151.drop 8).take 8 := by decide +kernel
  rw [e]
  simp only [List.all_append, mO_151_0, mO_151_1, Bool.and_true]
theorem mQ_151 : ck_q lw_tbl mi_cl mG_151 0 0 13 [265, 2548, 138] = true := by decide +kernel
set_option maxRecDepth 100000 in
theorem mW_151 : Cond.code ⟨"SafeCodeModel", "isLine", "()Z"⟩ prog_14_method_24_code 2 (some .boolean) ∈ lw_tbl.filter goodWord := mI_tables_1_10 (List.mem_of_getElem? (i := 142) rfl) rfl
theorem mD_152_0 : ck_t prog_14_method_21_code mT_152_0 = true := by decide +kernel
theorem mD_152_1 : ck_t prog_14_method_21_code mT_152_1 = true := by decide +kernel
theorem mD_152_2 : ck_t prog_14_method_21_code mT_152_2 = true := by decide +kernel
theorem mD_152_3 : ck_t prog_14_method_21_code mT_152_3 = true := by decide +kernel
theorem mD_152 : ck_t prog_14_method_21_code mT_152 = true := ck_t_app mD_152_0 (ck_t_app mD_152_1 (ck_t_app mD_152_2 mD_152_3))
theorem mO_152 : mC_152.all (ck_c lw_tbl (mi_ev []) mi_Gs mi_mq mi_fr mi_lo 152 "SafeCodeModel") = true := by decide +kernel
theorem mQ_152 : ck_q lw_tbl mi_cl mG_152 0 0 13 [265, 2514, 132] = true := by decide +kernel
set_option maxRecDepth 100000 in
theorem mW_152 : Cond.code ⟨"SafeCodeModel", "isMember", "()Z"⟩ prog_14_method_21_code 1 (some .boolean) ∈ lw_tbl.filter goodWord := mI_tables_1_10 (List.mem_of_getElem? (i := 108) rfl) rfl
theorem mD_153_0 : ck_t prog_14_method_10_code mT_153_0 = true := by decide +kernel
theorem mD_153 : ck_t prog_14_method_10_code mT_153 = true := mD_153_0
theorem mO_153 : mC_153.all (ck_c lw_tbl (mi_ev []) mi_Gs mi_mq mi_fr mi_lo 153 "SafeCodeModel") = true := by decide +kernel
theorem mQ_153 : ck_q lw_tbl mi_cl mG_153 0 4 13 [265, 2507, 131] = true := by decide +kernel
set_option maxRecDepth 100000 in
theorem mW_153 : Cond.code ⟨"SafeCodeModel", "isName", "(IIII)Z"⟩ prog_14_method_10_code 7 (some .boolean) ∈ lw_tbl.filter goodWord := mI_tables_1_10 (List.mem_of_getElem? (i := 101) rfl) rfl
