/-! Checks of methods. -/
theorem mD_10_0 : ck_t prog_17_method_49_code mT_10_0 = true := by decide +kernel
theorem mD_10 : ck_t prog_17_method_49_code mT_10 = true := mD_10_0
theorem mO_10 : mC_10.all (ck_c lw_tbl (mi_ev []) mi_Gs mi_mq mi_fr mi_lo 10 "java/lang/Integer") = true := by decide +kernel
theorem mQ_10 : ck_q lw_tbl mi_cl mG_10 3 1 0 [268, 1321] = true := by decide +kernel
set_option maxRecDepth 100000 in
theorem mW_10 : Cond.code ⟨"java/lang/Integer", "bitCount", "(I)I"⟩ prog_17_method_49_code 1 (some .int) ∈ lw_tbl.filter goodWord := mI_tables_1_5 (List.mem_of_getElem? (i := 115) rfl) rfl
theorem mD_11_0 : ck_t prog_17_method_47_code mT_11_0 = true := by decide +kernel
theorem mD_11 : ck_t prog_17_method_47_code mT_11 = true := mD_11_0
theorem mO_11 : mC_11.all (ck_c lw_tbl (mi_ev []) mi_Gs mi_mq mi_fr mi_lo 11 "java/lang/Integer") = true := by decide +kernel
theorem mQ_11 : ck_q lw_tbl mi_cl mG_11 3 1 0 [268, 1348] = true := by decide +kernel
set_option maxRecDepth 100000 in
theorem mW_11 : Cond.code ⟨"java/lang/Integer", "numberOfLeadingZeros", "(I)I"⟩ prog_17_method_47_code 2 (some .int) ∈ lw_tbl.filter goodWord := mI_tables_1_5 (List.mem_of_getElem? (i := 142) rfl) rfl
theorem mD_12_0 : ck_t prog_17_method_48_code mT_12_0 = true := by decide +kernel
theorem mD_12 : ck_t prog_17_method_48_code mT_12 = true := mD_12_0
theorem mO_12 : mC_12.all (ck_c lw_tbl (mi_ev []) mi_Gs mi_mq mi_fr mi_lo 12 "java/lang/Integer") = true := by decide +kernel
theorem mQ_12 : ck_q lw_tbl mi_cl mG_12 3 1 0 [268, 1327] = true := by decide +kernel
set_option maxRecDepth 100000 in
theorem mW_12 : Cond.code ⟨"java/lang/Integer", "numberOfTrailingZeros", "(I)I"⟩ prog_17_method_48_code 2 (some .int) ∈ lw_tbl.filter goodWord := mI_tables_1_5 (List.mem_of_getElem? (i := 121) rfl) rfl
theorem mD_13_0 : ck_t prog_24_method_103_code mT_13_0 = true := by decide +kernel
theorem mD_13 : ck_t prog_24_method_103_code mT_13 = true := mD_13_0
theorem mO_13 : mC_13.all (ck_c lw_tbl (mi_ev []) mi_Gs mi_mq mi_fr mi_lo 13 "java/util/Arrays") = true := by decide +kernel
theorem mQ_13 : ck_q lw_tbl mi_cl mG_13 3 2 0 [254, 341] = true := by decide +kernel
set_option maxRecDepth 100000 in
theorem mW_13 : Cond.code ⟨"java/util/Arrays", "fill", "([II)V"⟩ prog_24_method_103_code 4 (none) ∈ lw_tbl.filter goodWord := mI_tables_1_1 (List.mem_of_getElem? (i := 95) rfl) rfl
theorem mD_14_0 : ck_t prog_24_method_101_code mT_14_0 = true := by decide +kernel
theorem mD_14 : ck_t prog_24_method_101_code mT_14 = true := mD_14_0
theorem mO_14 : mC_14.all (ck_c lw_tbl (mi_ev []) mi_Gs mi_mq mi_fr mi_lo 14 "java/util/Arrays") = true := by decide +kernel
theorem mQ_14 : ck_q lw_tbl mi_cl mG_14 3 2 0 [254, 1403] = true := by decide +kernel
set_option maxRecDepth 100000 in
theorem mW_14 : Cond.code ⟨"java/util/Arrays", "fill", "([JJ)V"⟩ prog_24_method_101_code 5 (none) ∈ lw_tbl.filter goodWord := mI_tables_1_5 (List.mem_of_getElem? (i := 197) rfl) rfl
theorem mD_15_0 : ck_t prog_19_method_61_code mT_15_0 = true := by decide +kernel
theorem mD_15 : ck_t prog_19_method_61_code mT_15 = true := mD_15_0
theorem mO_15 : mC_15.all (ck_c lw_tbl (mi_ev []) mi_Gs mi_mq mi_fr mi_lo 15 "java/lang/Math") = true := by decide +kernel
theorem mQ_15 : ck_q lw_tbl mi_cl mG_15 3 1 0 [270, 1653] = true := by decide +kernel
set_option maxRecDepth 100000 in
theorem mW_15 : Cond.code ⟨"java/lang/Math", "abs", "(J)J"⟩ prog_19_method_61_code 2 (some .long) ∈ lw_tbl.filter goodWord := mI_tables_1_6 (List.mem_of_getElem? (i := 207) rfl) rfl
