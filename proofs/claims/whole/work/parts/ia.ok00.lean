/-! Checks of methods. -/
theorem mD_0_0 : ck_t code mT_0_0 = true := by decide +kernel
theorem mD_0_1 : ck_t code mT_0_1 = true := by decide +kernel
theorem mD_0_2 : ck_t code mT_0_2 = true := by decide +kernel
theorem mD_0_3 : ck_t code mT_0_3 = true := by decide +kernel
theorem mD_0_4 : ck_t code mT_0_4 = true := by decide +kernel
theorem mD_0_5 : ck_t code mT_0_5 = true := by decide +kernel
theorem mD_0_6 : ck_t code mT_0_6 = true := by decide +kernel
theorem mD_0_7 : ck_t code mT_0_7 = true := by decide +kernel
theorem mD_0_8 : ck_t code mT_0_8 = true := by decide +kernel
theorem mD_0_9 : ck_t code mT_0_9 = true := by decide +kernel
theorem mD_0_10 : ck_t code mT_0_10 = true := by decide +kernel
theorem mD_0 : ck_t code mT_0 = true := ck_t_app mD_0_0 (ck_t_app mD_0_1 (ck_t_app mD_0_2 (ck_t_app mD_0_3 (ck_t_app mD_0_4 (ck_t_app mD_0_5 (ck_t_app mD_0_6 (ck_t_app mD_0_7 (ck_t_app mD_0_8 (ck_t_app mD_0_9 mD_0_10)))))))))
theorem mO_0_0 : ((mC_0.drop 0).take 8).all (ck_c lw_tbl (mi_ev []) mi_Gs mi_mq mi_fr mi_lo 0 "SafeCodeLaw") = true := by decide +kernel
theorem mO_0_1 : ((mC_0.drop 8).take 8).all (ck_c lw_tbl (mi_ev []) mi_Gs mi_mq mi_fr mi_lo 0 "SafeCodeLaw") = true := by decide +kernel
theorem mO_0_2 : ((mC_0.drop 16).take 8).all (ck_c lw_tbl (mi_ev []) mi_Gs mi_mq mi_fr mi_lo 0 "SafeCodeLaw") = true := by decide +kernel
theorem mO_0_3 : ((mC_0.drop 24).take 8).all (ck_c lw_tbl (mi_ev []) mi_Gs mi_mq mi_fr mi_lo 0 "SafeCodeLaw") = true := by decide +kernel
theorem mO_0_4 : ((mC_0.drop 32).take 8).all (ck_c lw_tbl (mi_ev []) mi_Gs mi_mq mi_fr mi_lo 0 "SafeCodeLaw") = true := by decide +kernel
theorem mO_0_5 : ((mC_0.drop 40).take 8).all (ck_c lw_tbl (mi_ev []) mi_Gs mi_mq mi_fr mi_lo 0 "SafeCodeLaw") = true := by decide +kernel
theorem mO_0 : mC_0.all (ck_c lw_tbl (mi_ev []) mi_Gs mi_mq mi_fr mi_lo 0 "SafeCodeLaw") = true := by
  have e : mC_0 = (mC_0.drop 0).take 8 ++ (mC_0.drop 8).take 8 ++ (mC_0.drop 16).take 8 ++ (mC_0.drop 24).take 8 ++ (mC_0.drop 32).take 8 ++ (mC_0.drop 40).take 8 := by decide +kernel
  rw [e]
  simp only [List.all_append, mO_0_0, mO_0_1, mO_0_2, mO_0_3, mO_0_4, mO_0_5, Bool.and_true]
theorem mD_1_0 : ck_t prog_20_method_56_code mT_1_0 = true := by decide +kernel
theorem mD_1 : ck_t prog_20_method_56_code mT_1 = true := mD_1_0
theorem mO_1 : mC_1.all (ck_c lw_tbl (mi_ev []) mi_Gs mi_mq mi_fr mi_lo 1 "java/lang/String") = true := by decide +kernel
theorem mQ_1 : ck_q lw_tbl mi_cl mG_1 5 1 0 [250, 301, 302] = true := by decide +kernel
set_option maxRecDepth 100000 in
theorem mW_1 : Cond.code ⟨"java/lang/String", "charAt", "(I)C"⟩ prog_20_method_56_code 2 (some .char) ∈ lw_tbl.filter goodWord := mI_tables_1_1 (List.mem_of_getElem? (i := 56) rfl) rfl
theorem mD_2_0 : ck_t prog_20_method_155_code mT_2_0 = true := by decide +kernel
theorem mD_2 : ck_t prog_20_method_155_code mT_2 = true := mD_2_0
theorem mO_2 : mC_2.all (ck_c lw_tbl (mi_ev []) mi_Gs mi_mq mi_fr mi_lo 2 "java/lang/String") = true := by decide +kernel
theorem mQ_2 : ck_q lw_tbl mi_cl mG_2 3 2 0 [250, 312] = true := by decide +kernel
set_option maxRecDepth 100000 in
theorem mW_2 : Cond.code ⟨"java/lang/String", "checkIndex", "(II)V"⟩ prog_20_method_155_code 2 (none) ∈ lw_tbl.filter goodWord := mI_tables_1_1 (List.mem_of_getElem? (i := 66) rfl) rfl
theorem mD_3_0 : ck_t prog_20_method_152_code mT_3_0 = true := by decide +kernel
theorem mD_3 : ck_t prog_20_method_152_code mT_3 = true := mD_3_0
theorem mO_3 : mC_3.all (ck_c lw_tbl (mi_ev []) mi_Gs mi_mq mi_fr mi_lo 3 "java/lang/String") = true := by decide +kernel
theorem mQ_3 : ck_q lw_tbl mi_cl mG_3 5 0 0 [250, 295, 296] = true := by decide +kernel
set_option maxRecDepth 100000 in
theorem mW_3 : Cond.code ⟨"java/lang/String", "coder", "()B"⟩ prog_20_method_152_code 1 (some .byte) ∈ lw_tbl.filter goodWord := mI_tables_1_1 (List.mem_of_getElem? (i := 50) rfl) rfl
