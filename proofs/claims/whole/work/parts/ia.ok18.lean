/-! Checks of methods. -/
theorem mD_102_0 : ck_t prog_14_method_46_code mT_102_0 = true := by decide +kernel
theorem mD_102_1 : ck_t prog_14_method_46_code mT_102_1 = true := by decide +kernel
theorem mD_102_2 : ck_t prog_14_method_46_code mT_102_2 = true := by decide +kernel
theorem mD_102_3 : ck_t prog_14_method_46_code mT_102_3 = true := by decide +kernel
theorem mD_102_4 : ck_t prog_14_method_46_code mT_102_4 = true := by decide +kernel
theorem mD_102 : ck_t prog_14_method_46_code mT_102 = true := ck_t_app mD_102_0 (ck_t_app mD_102_1 (ck_t_app mD_102_2 (ck_t_app mD_102_3 mD_102_4)))
theorem mO_102_0 : ((mC_102.drop 0).take 8).all (ck_c lw_tbl (mi_ev []) mi_Gs mi_mq mi_fr mi_lo 102 "SafeCodeModel") = true := by decide +kernel
theorem mO_102_1 : ((mC_102.drop 8).take 8).all (ck_c lw_tbl (mi_ev []) mi_Gs mi_mq mi_fr mi_lo 102 "SafeCodeModel") = true := by decide +kernel
theorem mO_102 : mC_102.all (ck_c lw_tbl (mi_ev []) mi_Gs mi_mq mi_fr mi_lo 102 "SafeCodeModel") = true := by
  have e : mC_102 = (mC_102.drop 0).take 8 ++ (mC_102.drop 8).take 8 := by decide +kernel
  rw [e]
  simp only [List.all_append, mO_102_0, mO_102_1, Bool.and_true]
theorem mQ_102 : ck_q lw_tbl mi_cl mG_102 0 4 13 [265, 2670, 166] = true := by decide +kernel
set_option maxRecDepth 100000 in
theorem mW_102 : Cond.code ⟨"SafeCodeModel", "code", "(LSafeCodeModel$Program;III)Z"⟩ prog_14_method_46_code 7 (some .boolean) ∈ lw_tbl.filter goodWord := mI_tables_1_11 (List.mem_of_getElem? (i := 24) rfl) rfl
theorem mD_103_0 : ck_t prog_14_method_96_code mT_103_0 = true := by decide +kernel
theorem mD_103 : ck_t prog_14_method_96_code mT_103 = true := mD_103_0
theorem mO_103 : mC_103.all (ck_c lw_tbl (mi_ev []) mi_Gs mi_mq mi_fr mi_lo 103 "SafeCodeModel") = true := by decide +kernel
theorem mQ_103 : ck_q lw_tbl mi_cl mG_103 3 1 0 [265, 2854] = true := by decide +kernel
set_option maxRecDepth 100000 in
theorem mW_103 : Cond.code ⟨"SafeCodeModel", "contrary", "(I)I"⟩ prog_14_method_96_code 1 (some .int) ∈ lw_tbl.filter goodWord := mI_tables_1_11 (List.mem_of_getElem? (i := 208) rfl) rfl
theorem mD_104_0 : ck_t prog_14_method_57_code mT_104_0 = true := by decide +kernel
theorem mD_104 : ck_t prog_14_method_57_code mT_104 = true := mD_104_0
theorem mO_104 : mC_104.all (ck_c lw_tbl (mi_ev []) mi_Gs mi_mq mi_fr mi_lo 104 "SafeCodeModel") = true := by decide +kernel
theorem mQ_104 : ck_q lw_tbl mi_cl mG_104 3 3 0 [265, 2725] = true := by decide +kernel
set_option maxRecDepth 100000 in
theorem mW_104 : Cond.code ⟨"SafeCodeModel", "covers", "(LSafeCodeModel$Program;II)Z"⟩ prog_14_method_57_code 3 (some .boolean) ∈ lw_tbl.filter goodWord := mI_tables_1_11 (List.mem_of_getElem? (i := 79) rfl) rfl
theorem mD_105_0 : ck_t prog_14_method_5_code mT_105_0 = true := by decide +kernel
theorem mD_105_1 : ck_t prog_14_method_5_code mT_105_1 = true := by decide +kernel
theorem mD_105_2 : ck_t prog_14_method_5_code mT_105_2 = true := by decide +kernel
theorem mD_105_3 : ck_t prog_14_method_5_code mT_105_3 = true := by decide +kernel
theorem mD_105 : ck_t prog_14_method_5_code mT_105 = true := ck_t_app mD_105_0 (ck_t_app mD_105_1 (ck_t_app mD_105_2 mD_105_3))
theorem mO_105 : mC_105.all (ck_c lw_tbl (mi_ev []) mi_Gs mi_mq mi_fr mi_lo 105 "SafeCodeModel") = true := by decide +kernel
theorem mQ_105 : ck_q lw_tbl mi_cl mG_105 0 0 13 [265, 2484, 126] = true := by decide +kernel
set_option maxRecDepth 100000 in
theorem mW_105 : Cond.code ⟨"SafeCodeModel", "cut", "()Z"⟩ prog_14_method_5_code 7 (some .boolean) ∈ lw_tbl.filter goodWord := mI_tables_1_10 (List.mem_of_getElem? (i := 78) rfl) rfl
theorem mD_106_0 : ck_t prog_14_method_114_code mT_106_0 = true := by decide +kernel
theorem mD_106 : ck_t prog_14_method_114_code mT_106 = true := mD_106_0
theorem mO_106 : mC_106.all (ck_c lw_tbl (mi_ev []) mi_Gs mi_mq mi_fr mi_lo 106 "SafeCodeModel") = true := by decide +kernel
theorem mQ_106 : ck_q lw_tbl mi_cl mG_106 0 1 13 [265, 2908, 211] = true := by decide +kernel
set_option maxRecDepth 100000 in
theorem mW_106 : Cond.code ⟨"SafeCodeModel", "dereference", "(I)Z"⟩ prog_14_method_114_code 2 (some .boolean) ∈ lw_tbl.filter goodWord := mI_tables_1_12 (List.mem_of_getElem? (i := 22) rfl) rfl
