/-! Checks of methods. -/
theorem mD_333_0 : ck_t prog_6_method_23_code mT_333_0 = true := by decide +kernel
theorem mD_333 : ck_t prog_6_method_23_code mT_333 = true := mD_333_0
theorem mO_333 : mC_333.all (ck_c lw_tbl (mi_ev []) mi_Gs mi_mq mi_fr mi_lo 333 "SafeCode$Proof") = true := by decide +kernel
theorem mQ_333 : ck_q lw_tbl mi_cl mG_333 0 1 4 [261, 1707, 78] = true := by decide +kernel
set_option maxRecDepth 100000 in
theorem mW_333 : Cond.code ⟨"SafeCode$Proof", "makesObject", "(I)Z"⟩ prog_6_method_23_code 6 (some .boolean) ∈ lw_tbl.filter goodWord := mI_tables_1_7 (List.mem_of_getElem? (i := 21) rfl) rfl
theorem mD_334_0 : ck_t prog_6_method_13_code mT_334_0 = true := by decide +kernel
theorem mD_334_1 : ck_t prog_6_method_13_code mT_334_1 = true := by decide +kernel
theorem mD_334_2 : ck_t prog_6_method_13_code mT_334_2 = true := by decide +kernel
theorem mD_334 : ck_t prog_6_method_13_code mT_334 = true := ck_t_app mD_334_0 (ck_t_app mD_334_1 mD_334_2)
theorem mO_334 : mC_334.all (ck_c lw_tbl (mi_ev []) mi_Gs mi_mq mi_fr mi_lo 334 "SafeCode$Proof") = true := by decide +kernel
theorem mQ_334 : ck_q lw_tbl mi_cl mG_334 0 2 4 [261, 1756, 86] = true := by decide +kernel
set_option maxRecDepth 100000 in
theorem mW_334 : Cond.code ⟨"SafeCode$Proof", "moves", "(II)Z"⟩ prog_6_method_13_code 6 (some .boolean) ∈ lw_tbl.filter goodWord := mI_tables_1_7 (List.mem_of_getElem? (i := 70) rfl) rfl
theorem mD_335_0 : ck_t prog_6_method_19_code mT_335_0 = true := by decide +kernel
theorem mD_335 : ck_t prog_6_method_19_code mT_335 = true := mD_335_0
theorem mO_335 : mC_335.all (ck_c lw_tbl (mi_ev []) mi_Gs mi_mq mi_fr mi_lo 335 "SafeCode$Proof") = true := by decide +kernel
theorem mQ_335 : ck_q lw_tbl mi_cl mG_335 0 1 4 [261, 1559, 56] = true := by decide +kernel
set_option maxRecDepth 100000 in
theorem mW_335 : Cond.code ⟨"SafeCode$Proof", "passOn", "(I)Z"⟩ prog_6_method_19_code 2 (some .boolean) ∈ lw_tbl.filter goodWord := mI_tables_1_6 (List.mem_of_getElem? (i := 113) rfl) rfl
theorem mD_336_0 : ck_t prog_6_method_2_code mT_336_0 = true := by decide +kernel
theorem mD_336_1 : ck_t prog_6_method_2_code mT_336_1 = true := by decide +kernel
theorem mD_336_2 : ck_t prog_6_method_2_code mT_336_2 = true := by decide +kernel
theorem mD_336 : ck_t prog_6_method_2_code mT_336 = true := ck_t_app mD_336_0 (ck_t_app mD_336_1 mD_336_2)
theorem mO_336 : mC_336.all (ck_c lw_tbl (mi_ev []) mi_Gs mi_mq mi_fr mi_lo 336 "SafeCode$Proof") = true := by decide +kernel
theorem mQ_336 : ck_q lw_tbl mi_cl mG_336 0 1 4 [261, 1391, 1392] = true := by decide +kernel
set_option maxRecDepth 100000 in
theorem mW_336 : Cond.code ⟨"SafeCode$Proof", "prove", "(LSafeCode$Program;)V"⟩ prog_6_method_2_code 6 (none) ∈ lw_tbl.filter goodWord := mI_tables_1_5 (List.mem_of_getElem? (i := 186) rfl) rfl
theorem mD_337_0 : ck_t prog_6_method_32_code mT_337_0 = true := by decide +kernel
theorem mD_337_1 : ck_t prog_6_method_32_code mT_337_1 = true := by decide +kernel
theorem mD_337_2 : ck_t prog_6_method_32_code mT_337_2 = true := by decide +kernel
theorem mD_337 : ck_t prog_6_method_32_code mT_337 = true := ck_t_app mD_337_0 (ck_t_app mD_337_1 mD_337_2)
theorem mO_337 : mC_337.all (ck_c lw_tbl (mi_ev []) mi_Gs mi_mq mi_fr mi_lo 337 "SafeCode$Proof") = true := by decide +kernel
theorem mQ_337 : ck_q lw_tbl mi_cl mG_337 0 1 4 [261, 1694, 76] = true := by decide +kernel
set_option maxRecDepth 100000 in
theorem mW_337 : Cond.code ⟨"SafeCode$Proof", "putsElement", "(I)Z"⟩ prog_6_method_32_code 11 (some .boolean) ∈ lw_tbl.filter goodWord := mI_tables_1_7 (List.mem_of_getElem? (i := 8) rfl) rfl
