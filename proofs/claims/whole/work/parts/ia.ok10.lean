/-! Checks of methods. -/
theorem mD_58_0 : ck_t prog_1_method_6_code mT_58_0 = true := by decide +kernel
theorem mD_58 : ck_t prog_1_method_6_code mT_58 = true := mD_58_0
theorem mO_58 : mC_58.all (ck_c lw_tbl (mi_ev []) mi_Gs mi_mq mi_fr mi_lo 58 "SafeCode") = true := by decide +kernel
theorem mQ_58 : ck_q lw_tbl mi_cl mG_58 0 0 11 [248, 1797, 1798] = true := by decide +kernel
set_option maxRecDepth 100000 in
theorem mW_58 : Cond.code ⟨"SafeCode", "faultAt", "()I"⟩ prog_1_method_6_code 1 (some .int) ∈ lw_tbl.filter goodWord := mI_tables_1_7 (List.mem_of_getElem? (i := 112) rfl) rfl
theorem mD_59_0 : ck_t prog_1_method_2_code mT_59_0 = true := by decide +kernel
theorem mD_59 : ck_t prog_1_method_2_code mT_59 = true := mD_59_0
theorem mO_59 : mC_59.all (ck_c lw_tbl (mi_ev []) mi_Gs mi_mq mi_fr mi_lo 59 "SafeCode") = true := by decide +kernel
theorem mQ_59 : ck_q lw_tbl mi_cl mG_59 0 5 11 [248, 1011, 1012] = true := by decide +kernel
set_option maxRecDepth 100000 in
theorem mW_59 : Cond.code ⟨"SafeCode", "feed", "(IIIII)I"⟩ prog_1_method_2_code 6 (some .int) ∈ lw_tbl.filter goodWord := mI_tables_1_4 (List.mem_of_getElem? (i := 46) rfl) rfl
theorem mD_60_0 : ck_t prog_1_method_3_code mT_60_0 = true := by decide +kernel
theorem mD_60 : ck_t prog_1_method_3_code mT_60 = true := mD_60_0
theorem mO_60 : mC_60.all (ck_c lw_tbl (mi_ev []) mi_Gs mi_mq mi_fr mi_lo 60 "SafeCode") = true := by decide +kernel
theorem mQ_60 : ck_q lw_tbl mi_cl mG_60 0 1 11 [248, 1017, 10] = true := by decide +kernel
set_option maxRecDepth 100000 in
theorem mW_60 : Cond.code ⟨"SafeCode", "feedWord", "(I)V"⟩ prog_1_method_3_code 3 (none) ∈ lw_tbl.filter goodWord := mI_tables_1_4 (List.mem_of_getElem? (i := 51) rfl) rfl
theorem mD_61_0 : ck_t prog_1_method_17_code mT_61_0 = true := by decide +kernel
theorem mD_61 : ck_t prog_1_method_17_code mT_61 = true := mD_61_0
theorem mO_61 : mC_61.all (ck_c lw_tbl (mi_ev []) mi_Gs mi_mq mi_fr mi_lo 61 "SafeCode") = true := by decide +kernel
theorem mQ_61 : ck_q lw_tbl mi_cl mG_61 0 2 11 [248, 1843, 1844] = true := by decide +kernel
set_option maxRecDepth 100000 in
theorem mW_61 : Cond.code ⟨"SafeCode", "high", "(II)I"⟩ prog_1_method_17_code 3 (some .int) ∈ lw_tbl.filter goodWord := mI_tables_1_7 (List.mem_of_getElem? (i := 158) rfl) rfl
theorem mD_62_0 : ck_t prog_1_method_1_code mT_62_0 = true := by decide +kernel
theorem mD_62 : ck_t prog_1_method_1_code mT_62 = true := mD_62_0
theorem mO_62 : mC_62.all (ck_c lw_tbl (mi_ev []) mi_Gs mi_mq mi_fr mi_lo 62 "SafeCode") = true := by decide +kernel
theorem mQ_62 : ck_q lw_tbl mi_cl mG_62 1 0 0 [248, 274] = true := by decide +kernel
set_option maxRecDepth 100000 in
theorem mW_62 : Cond.code ⟨"SafeCode", "<init>", "()V"⟩ prog_1_method_1_code 1 (none) ∈ lw_tbl.filter goodWord := mI_tables_1_1 (List.mem_of_getElem? (i := 28) rfl) rfl
theorem mD_63_0 : ck_t prog_1_method_21_code mT_63_0 = true := by decide +kernel
theorem mD_63 : ck_t prog_1_method_21_code mT_63 = true := mD_63_0
theorem mO_63 : mC_63.all (ck_c lw_tbl (mi_ev []) mi_Gs mi_mq mi_fr mi_lo 63 "SafeCode") = true := by decide +kernel
theorem mQ_63 : ck_q lw_tbl mi_cl mG_63 0 1 11 [248, 1864, 1865] = true := by decide +kernel
set_option maxRecDepth 100000 in
theorem mW_63 : Cond.code ⟨"SafeCode", "input", "(I)Z"⟩ prog_1_method_21_code 2 (some .boolean) ∈ lw_tbl.filter goodWord := mI_tables_1_7 (List.mem_of_getElem? (i := 179) rfl) rfl
