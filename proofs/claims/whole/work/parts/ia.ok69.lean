/-! Checks of methods. -/
theorem mD_384_0 : ck_t prog_8_method_22_code mT_384_0 = true := by decide +kernel
theorem mD_384_1 : ck_t prog_8_method_22_code mT_384_1 = true := by decide +kernel
theorem mD_384_2 : ck_t prog_8_method_22_code mT_384_2 = true := by decide +kernel
theorem mD_384_3 : ck_t prog_8_method_22_code mT_384_3 = true := by decide +kernel
theorem mD_384 : ck_t prog_8_method_22_code mT_384 = true := ck_t_app mD_384_0 (ck_t_app mD_384_1 (ck_t_app mD_384_2 mD_384_3))
theorem mO_384 : mC_384.all (ck_c lw_tbl (mi_ev []) mi_Gs mi_mq mi_fr mi_lo 384 "SafeCode$Reader") = true := by decide +kernel
theorem mQ_384 : ck_q lw_tbl mi_cl mG_384 0 3 6 [259, 1234, 32] = true := by decide +kernel
set_option maxRecDepth 100000 in
theorem mW_384 : Cond.code ⟨"SafeCode$Reader", "resolveOperands", "(III)Z"⟩ prog_8_method_22_code 5 (some .boolean) ∈ lw_tbl.filter goodWord := mI_tables_1_5 (List.mem_of_getElem? (i := 28) rfl) rfl
theorem mD_385_0 : ck_t prog_8_method_3_code mT_385_0 = true := by decide +kernel
theorem mD_385 : ck_t prog_8_method_3_code mT_385 = true := mD_385_0
theorem mO_385 : mC_385.all (ck_c lw_tbl (mi_ev []) mi_Gs mi_mq mi_fr mi_lo 385 "SafeCode$Reader") = true := by decide +kernel
theorem mQ_385 : ck_q lw_tbl mi_cl mG_385 0 1 6 [259, 1056, 13] = true := by decide +kernel
set_option maxRecDepth 100000 in
theorem mW_385 : Cond.code ⟨"SafeCode$Reader", "step", "(Z)Z"⟩ prog_8_method_3_code 2 (some .boolean) ∈ lw_tbl.filter goodWord := mI_tables_1_4 (List.mem_of_getElem? (i := 90) rfl) rfl
theorem mD_386_0 : ck_t prog_8_method_8_code mT_386_0 = true := by decide +kernel
theorem mD_386 : ck_t prog_8_method_8_code mT_386 = true := mD_386_0
theorem mO_386 : mC_386.all (ck_c lw_tbl (mi_ev []) mi_Gs mi_mq mi_fr mi_lo 386 "SafeCode$Reader") = true := by decide +kernel
theorem mQ_386 : ck_q lw_tbl mi_cl mG_386 0 0 6 [259, 1081, 17] = true := by decide +kernel
set_option maxRecDepth 100000 in
theorem mW_386 : Cond.code ⟨"SafeCode$Reader", "takesHead", "()Z"⟩ prog_8_method_8_code 1 (some .boolean) ∈ lw_tbl.filter goodWord := mI_tables_1_4 (List.mem_of_getElem? (i := 115) rfl) rfl
theorem mD_387_0 : ck_t prog_8_method_9_code mT_387_0 = true := by decide +kernel
theorem mD_387_1 : ck_t prog_8_method_9_code mT_387_1 = true := by decide +kernel
theorem mD_387_2 : ck_t prog_8_method_9_code mT_387_2 = true := by decide +kernel
theorem mD_387 : ck_t prog_8_method_9_code mT_387 = true := ck_t_app mD_387_0 (ck_t_app mD_387_1 mD_387_2)
theorem mO_387 : mC_387.all (ck_c lw_tbl (mi_ev []) mi_Gs mi_mq mi_fr mi_lo 387 "SafeCode$Reader") = true := by decide +kernel
theorem mQ_387 : ck_q lw_tbl mi_cl mG_387 0 0 6 [259, 1085, 18] = true := by decide +kernel
set_option maxRecDepth 100000 in
theorem mW_387 : Cond.code ⟨"SafeCode$Reader", "takesLines", "()Z"⟩ prog_8_method_9_code 5 (some .boolean) ∈ lw_tbl.filter goodWord := mI_tables_1_4 (List.mem_of_getElem? (i := 119) rfl) rfl
theorem mD_388_0 : ck_t prog_8_method_7_code mT_388_0 = true := by decide +kernel
theorem mD_388 : ck_t prog_8_method_7_code mT_388 = true := mD_388_0
theorem mO_388 : mC_388.all (ck_c lw_tbl (mi_ev []) mi_Gs mi_mq mi_fr mi_lo 388 "SafeCode$Reader") = true := by decide +kernel
theorem mQ_388 : ck_q lw_tbl mi_cl mG_388 0 0 6 [259, 1068, 15] = true := by decide +kernel
set_option maxRecDepth 100000 in
theorem mW_388 : Cond.code ⟨"SafeCode$Reader", "takesMembers", "()Z"⟩ prog_8_method_7_code 4 (some .boolean) ∈ lw_tbl.filter goodWord := mI_tables_1_4 (List.mem_of_getElem? (i := 102) rfl) rfl
