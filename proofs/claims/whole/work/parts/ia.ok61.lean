/-! Checks of methods. -/
theorem mD_338_0 : ck_t prog_6_method_11_code mT_338_0 = true := by decide +kernel
theorem mD_338 : ck_t prog_6_method_11_code mT_338 = true := mD_338_0
theorem mO_338 : mC_338.all (ck_c lw_tbl (mi_ev []) mi_Gs mi_mq mi_fr mi_lo 338 "SafeCode$Proof") = true := by decide +kernel
theorem mQ_338 : ck_q lw_tbl mi_cl mG_338 0 1 4 [261, 1616, 63] = true := by decide +kernel
set_option maxRecDepth 100000 in
theorem mW_338 : Cond.code ⟨"SafeCode$Proof", "raise", "(I)V"⟩ prog_6_method_11_code 2 (none) ∈ lw_tbl.filter goodWord := mI_tables_1_6 (List.mem_of_getElem? (i := 170) rfl) rfl
theorem mD_339_0 : ck_t prog_6_method_29_code mT_339_0 = true := by decide +kernel
theorem mD_339 : ck_t prog_6_method_29_code mT_339 = true := mD_339_0
theorem mO_339 : mC_339.all (ck_c lw_tbl (mi_ev []) mi_Gs mi_mq mi_fr mi_lo 339 "SafeCode$Proof") = true := by decide +kernel
theorem mQ_339 : ck_q lw_tbl mi_cl mG_339 0 3 4 [261, 1680, 73] = true := by decide +kernel
set_option maxRecDepth 100000 in
theorem mW_339 : Cond.code ⟨"SafeCode$Proof", "staysInside", "(IIJ)Z"⟩ prog_6_method_29_code 10 (some .boolean) ∈ lw_tbl.filter goodWord := mI_tables_1_6 (List.mem_of_getElem? (i := 234) rfl) rfl
theorem mD_340_0 : ck_t prog_6_method_30_code mT_340_0 = true := by decide +kernel
theorem mD_340 : ck_t prog_6_method_30_code mT_340 = true := mD_340_0
theorem mO_340 : mC_340.all (ck_c lw_tbl (mi_ev []) mi_Gs mi_mq mi_fr mi_lo 340 "SafeCode$Proof") = true := by decide +kernel
theorem mQ_340 : ck_q lw_tbl mi_cl mG_340 0 1 4 [261, 1685, 74] = true := by decide +kernel
set_option maxRecDepth 100000 in
theorem mW_340 : Cond.code ⟨"SafeCode$Proof", "takesElement", "(I)Z"⟩ prog_6_method_30_code 9 (some .boolean) ∈ lw_tbl.filter goodWord := mI_tables_1_6 (List.mem_of_getElem? (i := 239) rfl) rfl
theorem mD_341_0 : ck_t prog_6_method_27_code mT_341_0 = true := by decide +kernel
theorem mD_341 : ck_t prog_6_method_27_code mT_341 = true := mD_341_0
theorem mO_341 : mC_341.all (ck_c lw_tbl (mi_ev []) mi_Gs mi_mq mi_fr mi_lo 341 "SafeCode$Proof") = true := by decide +kernel
theorem mQ_341 : ck_q lw_tbl mi_cl mG_341 0 0 4 [261, 1726, 80] = true := by decide +kernel
set_option maxRecDepth 100000 in
theorem mW_341 : Cond.code ⟨"SafeCode$Proof", "tellsLength", "()Z"⟩ prog_6_method_27_code 5 (some .boolean) ∈ lw_tbl.filter goodWord := mI_tables_1_7 (List.mem_of_getElem? (i := 40) rfl) rfl
theorem mD_342_0 : ck_t prog_6_method_35_code mT_342_0 = true := by decide +kernel
theorem mD_342 : ck_t prog_6_method_35_code mT_342 = true := mD_342_0
theorem mO_342 : mC_342.all (ck_c lw_tbl (mi_ev []) mi_Gs mi_mq mi_fr mi_lo 342 "SafeCode$Proof") = true := by decide +kernel
theorem mQ_342 : ck_q lw_tbl mi_cl mG_342 0 1 4 [261, 1738, 83] = true := by decide +kernel
set_option maxRecDepth 100000 in
theorem mW_342 : Cond.code ⟨"SafeCode$Proof", "tellsType", "(I)Z"⟩ prog_6_method_35_code 6 (some .boolean) ∈ lw_tbl.filter goodWord := mI_tables_1_7 (List.mem_of_getElem? (i := 52) rfl) rfl
theorem mD_343_0 : ck_t prog_6_method_12_code mT_343_0 = true := by decide +kernel
theorem mD_343_1 : ck_t prog_6_method_12_code mT_343_1 = true := by decide +kernel
theorem mD_343_2 : ck_t prog_6_method_12_code mT_343_2 = true := by decide +kernel
theorem mD_343 : ck_t prog_6_method_12_code mT_343 = true := ck_t_app mD_343_0 (ck_t_app mD_343_1 mD_343_2)
theorem mO_343 : mC_343.all (ck_c lw_tbl (mi_ev []) mi_Gs mi_mq mi_fr mi_lo 343 "SafeCode$Proof") = true := by decide +kernel
theorem mQ_343 : ck_q lw_tbl mi_cl mG_343 0 1 4 [261, 1779, 87] = true := by decide +kernel
set_option maxRecDepth 100000 in
theorem mW_343 : Cond.code ⟨"SafeCode$Proof", "throwLoose", "(I)V"⟩ prog_6_method_12_code 8 (none) ∈ lw_tbl.filter goodWord := mI_tables_1_7 (List.mem_of_getElem? (i := 93) rfl) rfl
