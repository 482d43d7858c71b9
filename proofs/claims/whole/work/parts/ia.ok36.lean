/-! Checks of methods. -/
theorem mD_199_0 : ck_t prog_14_method_150_code mT_199_0 = true := by decide +kernel
theorem mD_199 : ck_t prog_14_method_150_code mT_199 = true := mD_199_0
theorem mO_199 : mC_199.all (ck_c lw_tbl (mi_ev []) mi_Gs mi_mq mi_fr mi_lo 199 "SafeCodeModel") = true := by decide +kernel
theorem mQ_199 : ck_q lw_tbl mi_cl mG_199 0 4 13 [265, 3086, 238] = true := by decide +kernel
set_option maxRecDepth 100000 in
theorem mW_199 : Cond.code ⟨"SafeCodeModel", "object", "(IIII)J"⟩ prog_14_method_150_code 5 (some .long) ∈ lw_tbl.filter goodWord := mI_tables_1_12 (List.mem_of_getElem? (i := 200) rfl) rfl
theorem mD_200_0 : ck_t prog_14_method_144_code mT_200_0 = true := by decide +kernel
theorem mD_200 : ck_t prog_14_method_144_code mT_200 = true := mD_200_0
theorem mO_200 : mC_200.all (ck_c lw_tbl (mi_ev []) mi_Gs mi_mq mi_fr mi_lo 200 "SafeCodeModel") = true := by decide +kernel
theorem mQ_200 : ck_q lw_tbl mi_cl mG_200 3 1 0 [265, 3055] = true := by decide +kernel
set_option maxRecDepth 100000 in
theorem mW_200 : Cond.code ⟨"SafeCodeModel", "objectOf", "(J)I"⟩ prog_14_method_144_code 2 (some .int) ∈ lw_tbl.filter goodWord := mI_tables_1_12 (List.mem_of_getElem? (i := 169) rfl) rfl
theorem mD_201_0 : ck_t prog_14_method_157_code mT_201_0 = true := by decide +kernel
theorem mD_201_1 : ck_t prog_14_method_157_code mT_201_1 = true := by decide +kernel
theorem mD_201_2 : ck_t prog_14_method_157_code mT_201_2 = true := by decide +kernel
theorem mD_201_3 : ck_t prog_14_method_157_code mT_201_3 = true := by decide +kernel
theorem mD_201_4 : ck_t prog_14_method_157_code mT_201_4 = true := by decide +kernel
theorem mD_201_5 : ck_t prog_14_method_157_code mT_201_5 = true := by decide +kernel
theorem mD_201 : ck_t prog_14_method_157_code mT_201 = true := ck_t_app mD_201_0 (ck_t_app mD_201_1 (ck_t_app mD_201_2 (ck_t_app mD_201_3 (ck_t_app mD_201_4 mD_201_5))))
theorem mO_201_0 : ((mC_201.drop 0).take 8).all (ck_c lw_tbl (mi_ev []) mi_Gs mi_mq mi_fr mi_lo 201 "SafeCodeModel") = true := by decide +kernel
theorem mO_201_1 : ((mC_201.drop 8).take 8).all (ck_c lw_tbl (mi_ev []) mi_Gs mi_mq mi_fr mi_lo 201 "SafeCodeModel") = true := by decide +kernel
theorem mO_201 : mC_201.all (ck_c lw_tbl (mi_ev []) mi_Gs mi_mq mi_fr mi_lo 201 "SafeCodeModel") = true := by
  have e : mC_201 = (mC_201.drop 0).take 8 ++ (mC_201.drop 8).take 8 := by decide +kernel
  rw [e]
  simp only [List.all_append, mO_201_0, mO_201_1, Bool.and_true]
theorem mQ_201 : ck_q lw_tbl mi_cl mG_201 0 3 13 [265, 3106, 243] = true := by decide +kernel
set_option maxRecDepth 100000 in
theorem mW_201 : Cond.code ⟨"SafeCodeModel", "objectStep", "(III)V"⟩ prog_14_method_157_code 18 (none) ∈ lw_tbl.filter goodWord := mI_tables_1_12 (List.mem_of_getElem? (i := 220) rfl) rfl
theorem mD_202_0 : ck_t prog_14_method_119_code mT_202_0 = true := by decide +kernel
theorem mD_202_1 : ck_t prog_14_method_119_code mT_202_1 = true := by decide +kernel
theorem mD_202_2 : ck_t prog_14_method_119_code mT_202_2 = true := by decide +kernel
theorem mD_202 : ck_t prog_14_method_119_code mT_202 = true := ck_t_app mD_202_0 (ck_t_app mD_202_1 mD_202_2)
theorem mO_202 : mC_202.all (ck_c lw_tbl (mi_ev []) mi_Gs mi_mq mi_fr mi_lo 202 "SafeCodeModel") = true := by decide +kernel
theorem mQ_202 : ck_q lw_tbl mi_cl mG_202 0 3 13 [265, 2936, 217] = true := by decide +kernel
set_option maxRecDepth 100000 in
theorem mW_202 : Cond.code ⟨"SafeCodeModel", "ofType", "(LSafeCodeModel$Program;IZ)Z"⟩ prog_14_method_119_code 9 (some .boolean) ∈ lw_tbl.filter goodWord := mI_tables_1_12 (List.mem_of_getElem? (i := 50) rfl) rfl
theorem mD_203_0 : ck_t prog_14_method_23_code mT_203_0 = true := by decide +kernel
theorem mD_203 : ck_t prog_14_method_23_code mT_203 = true := mD_203_0
theorem mO_203 : mC_203.all (ck_c lw_tbl (mi_ev []) mi_Gs mi_mq mi_fr mi_lo 203 "SafeCodeModel") = true := by decide +kernel
theorem mQ_203 : ck_q lw_tbl mi_cl mG_203 0 1 13 [265, 2558, 140] = true := by decide +kernel
set_option maxRecDepth 100000 in
theorem mW_203 : Cond.code ⟨"SafeCodeModel", "opOf", "(I)I"⟩ prog_14_method_23_code 2 (some .int) ∈ lw_tbl.filter goodWord := mI_tables_1_10 (List.mem_of_getElem? (i := 152) rfl) rfl
