/-! Checks of methods. -/
theorem mD_312_0 : ck_t prog_6_method_14_code mT_312_0 = true := by decide +kernel
theorem mD_312_1 : ck_t prog_6_method_14_code mT_312_1 = true := by decide +kernel
theorem mD_312 : ck_t prog_6_method_14_code mT_312 = true := ck_t_app mD_312_0 mD_312_1
theorem mO_312_0 : ((mC_312.drop 0).take 8).all (ck_c lw_tbl (mi_ev []) mi_Gs mi_mq mi_fr mi_lo 312 "SafeCode$Proof") = true := by decide +kernel
theorem mO_312_1 : ((mC_312.drop 8).take 8).all (ck_c lw_tbl (mi_ev []) mi_Gs mi_mq mi_fr mi_lo 312 "SafeCode$Proof") = true := by decide +kernel
theorem mO_312 : mC_312.all (ck_c lw_tbl (mi_ev []) mi_Gs mi_mq mi_fr mi_lo 312 "SafeCode$Proof") = true := by
  have e : mC_312 = (mC_312.drop 0).take 8 ++ (mC_312.drop 8).take 8 := by decide +kernel
  rw [e]
  simp only [List.all_append, mO_312_0, mO_312_1, Bool.and_true]
theorem mQ_312 : ck_q lw_tbl mi_cl mG_312 0 1 4 [261, 1627, 64] = true := by decide +kernel
set_option maxRecDepth 100000 in
theorem mW_312 : Cond.code ⟨"SafeCode$Proof", "calculates", "(I)Z"⟩ prog_6_method_14_code 8 (some .boolean) ∈ lw_tbl.filter goodWord := mI_tables_1_6 (List.mem_of_getElem? (i := 181) rfl) rfl
theorem mD_313_0 : ck_t prog_6_method_38_code mT_313_0 = true := by decide +kernel
theorem mD_313_1 : ck_t prog_6_method_38_code mT_313_1 = true := by decide +kernel
theorem mD_313_2 : ck_t prog_6_method_38_code mT_313_2 = true := by decide +kernel
theorem mD_313_3 : ck_t prog_6_method_38_code mT_313_3 = true := by decide +kernel
theorem mD_313 : ck_t prog_6_method_38_code mT_313 = true := ck_t_app mD_313_0 (ck_t_app mD_313_1 (ck_t_app mD_313_2 mD_313_3))
theorem mO_313 : mC_313.all (ck_c lw_tbl (mi_ev []) mi_Gs mi_mq mi_fr mi_lo 313 "SafeCode$Proof") = true := by decide +kernel
theorem mQ_313 : ck_q lw_tbl mi_cl mG_313 0 2 4 [261, 1599, 60] = true := by decide +kernel
set_option maxRecDepth 100000 in
theorem mW_313 : Cond.code ⟨"SafeCode$Proof", "calls", "(II)Z"⟩ prog_6_method_38_code 11 (some .boolean) ∈ lw_tbl.filter goodWord := mI_tables_1_6 (List.mem_of_getElem? (i := 153) rfl) rfl
theorem mD_314_0 : ck_t prog_6_method_34_code mT_314_0 = true := by decide +kernel
theorem mD_314 : ck_t prog_6_method_34_code mT_314 = true := mD_314_0
theorem mO_314 : mC_314.all (ck_c lw_tbl (mi_ev []) mi_Gs mi_mq mi_fr mi_lo 314 "SafeCode$Proof") = true := by decide +kernel
theorem mQ_314 : ck_q lw_tbl mi_cl mG_314 0 1 4 [261, 1734, 82] = true := by decide +kernel
set_option maxRecDepth 100000 in
theorem mW_314 : Cond.code ⟨"SafeCode$Proof", "casts", "(I)Z"⟩ prog_6_method_34_code 5 (some .boolean) ∈ lw_tbl.filter goodWord := mI_tables_1_7 (List.mem_of_getElem? (i := 48) rfl) rfl
theorem mD_315_0 : ck_t prog_6_method_15_code mT_315_0 = true := by decide +kernel
theorem mD_315 : ck_t prog_6_method_15_code mT_315 = true := mD_315_0
theorem mO_315 : mC_315.all (ck_c lw_tbl (mi_ev []) mi_Gs mi_mq mi_fr mi_lo 315 "SafeCode$Proof") = true := by decide +kernel
theorem mQ_315 : ck_q lw_tbl mi_cl mG_315 3 1 0 [261, 1581] = true := by decide +kernel
set_option maxRecDepth 100000 in
theorem mW_315 : Cond.code ⟨"SafeCode$Proof", "contrary", "(I)I"⟩ prog_6_method_15_code 1 (some .int) ∈ lw_tbl.filter goodWord := mI_tables_1_6 (List.mem_of_getElem? (i := 135) rfl) rfl
theorem mD_316_0 : ck_t prog_6_method_25_code mT_316_0 = true := by decide +kernel
theorem mD_316 : ck_t prog_6_method_25_code mT_316 = true := mD_316_0
theorem mO_316 : mC_316.all (ck_c lw_tbl (mi_ev []) mi_Gs mi_mq mi_fr mi_lo 316 "SafeCode$Proof") = true := by decide +kernel
theorem mQ_316 : ck_q lw_tbl mi_cl mG_316 0 1 4 [261, 1612, 62] = true := by decide +kernel
set_option maxRecDepth 100000 in
theorem mW_316 : Cond.code ⟨"SafeCode$Proof", "dereference", "(I)Z"⟩ prog_6_method_25_code 4 (some .boolean) ∈ lw_tbl.filter goodWord := mI_tables_1_6 (List.mem_of_getElem? (i := 166) rfl) rfl
