/-! Checks of methods. -/
theorem mD_124_0 : ck_t prog_14_method_73_code mT_124_0 = true := by decide +kernel
theorem mD_124_1 : ck_t prog_14_method_73_code mT_124_1 = true := by decide +kernel
theorem mD_124_2 : ck_t prog_14_method_73_code mT_124_2 = true := by decide +kernel
theorem mD_124_3 : ck_t prog_14_method_73_code mT_124_3 = true := by decide +kernel
theorem mD_124_4 : ck_t prog_14_method_73_code mT_124_4 = true := by decide +kernel
theorem mD_124_5 : ck_t prog_14_method_73_code mT_124_5 = true := by decide +kernel
theorem mD_124 : ck_t prog_14_method_73_code mT_124 = true := ck_t_app mD_124_0 (ck_t_app mD_124_1 (ck_t_app mD_124_2 (ck_t_app mD_124_3 (ck_t_app mD_124_4 mD_124_5))))
theorem mO_124 : mC_124.all (ck_c lw_tbl (mi_ev []) mi_Gs mi_mq mi_fr mi_lo 124 "SafeCodeModel") = true := by decide +kernel
theorem mQ_124 : ck_q lw_tbl mi_cl mG_124 0 2 13 [265, 2765, 182] = true := by decide +kernel
set_option maxRecDepth 100000 in
theorem mW_124 : Cond.code ⟨"SafeCodeModel", "fits", "(LSafeCodeModel$Program;I)Z"⟩ prog_14_method_73_code 8 (some .boolean) ∈ lw_tbl.filter goodWord := mI_tables_1_11 (List.mem_of_getElem? (i := 119) rfl) rfl
theorem mD_125_0 : ck_t prog_14_method_106_code mT_125_0 = true := by decide +kernel
theorem mD_125 : ck_t prog_14_method_106_code mT_125 = true := mD_125_0
theorem mO_125 : mC_125.all (ck_c lw_tbl (mi_ev []) mi_Gs mi_mq mi_fr mi_lo 125 "SafeCodeModel") = true := by decide +kernel
theorem mQ_125 : ck_q lw_tbl mi_cl mG_125 0 3 13 [265, 2944, 219] = true := by decide +kernel
set_option maxRecDepth 100000 in
theorem mW_125 : Cond.code ⟨"SafeCodeModel", "given", "(LSafeCodeModel$Program;IZ)Z"⟩ prog_14_method_106_code 4 (some .boolean) ∈ lw_tbl.filter goodWord := mI_tables_1_12 (List.mem_of_getElem? (i := 58) rfl) rfl
theorem mD_126_0 : ck_t prog_14_method_95_code mT_126_0 = true := by decide +kernel
theorem mD_126 : ck_t prog_14_method_95_code mT_126 = true := mD_126_0
theorem mO_126 : mC_126.all (ck_c lw_tbl (mi_ev []) mi_Gs mi_mq mi_fr mi_lo 126 "SafeCodeModel") = true := by decide +kernel
theorem mQ_126 : ck_q lw_tbl mi_cl mG_126 0 2 13 [265, 2851, 198] = true := by decide +kernel
set_option maxRecDepth 100000 in
theorem mW_126 : Cond.code ⟨"SafeCodeModel", "goOn", "(LSafeCodeModel$Program;I)V"⟩ prog_14_method_95_code 3 (none) ∈ lw_tbl.filter goodWord := mI_tables_1_11 (List.mem_of_getElem? (i := 205) rfl) rfl
theorem mD_127_0 : ck_t prog_14_method_105_code mT_127_0 = true := by decide +kernel
theorem mD_127_1 : ck_t prog_14_method_105_code mT_127_1 = true := by decide +kernel
theorem mD_127_2 : ck_t prog_14_method_105_code mT_127_2 = true := by decide +kernel
theorem mD_127_3 : ck_t prog_14_method_105_code mT_127_3 = true := by decide +kernel
theorem mD_127_4 : ck_t prog_14_method_105_code mT_127_4 = true := by decide +kernel
theorem mD_127_5 : ck_t prog_14_method_105_code mT_127_5 = true := by decide +kernel
theorem mD_127_6 : ck_t prog_14_method_105_code mT_127_6 = true := by decide +kernel
theorem mD_127 : ck_t prog_14_method_105_code mT_127 = true := ck_t_app mD_127_0 (ck_t_app mD_127_1 (ck_t_app mD_127_2 (ck_t_app mD_127_3 (ck_t_app mD_127_4 (ck_t_app mD_127_5 mD_127_6)))))
theorem mO_127_0 : ((mC_127.drop 0).take 8).all (ck_c lw_tbl (mi_ev []) mi_Gs mi_mq mi_fr mi_lo 127 "SafeCodeModel") = true := by decide +kernel
theorem mO_127_1 : ((mC_127.drop 8).take 8).all (ck_c lw_tbl (mi_ev []) mi_Gs mi_mq mi_fr mi_lo 127 "SafeCodeModel") = true := by decide +kernel
theorem mO_127 : mC_127.all (ck_c lw_tbl (mi_ev []) mi_Gs mi_mq mi_fr mi_lo 127 "SafeCodeModel") = true := by
  have e : mC_127 = (mC_127.drop 0).take 8 ++ (mC_127.drop 8).take 8 := by decide +kernel
  rw [e]
  simp only [List.all_append, mO_127_0, mO_127_1, Bool.and_true]
theorem mQ_127 : ck_q lw_tbl mi_cl mG_127 0 2 13 [265, 2858, 199] = true := by decide +kernel
set_option maxRecDepth 100000 in
theorem mW_127 : Cond.code ⟨"SafeCodeModel", "goesBehind", "(LSafeCodeModel$Program;I)Z"⟩ prog_14_method_105_code 5 (some .boolean) ∈ lw_tbl.filter goodWord := mI_tables_1_11 (List.mem_of_getElem? (i := 212) rfl) rfl
