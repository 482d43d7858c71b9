/-! Checks of methods. -/
theorem mD_64_0 : ck_t prog_1_method_8_code mT_64_0 = true := by decide +kernel
theorem mD_64 : ck_t prog_1_method_8_code mT_64 = true := mD_64_0
theorem mO_64 : mC_64.all (ck_c lw_tbl (mi_ev []) mi_Gs mi_mq mi_fr mi_lo 64 "SafeCode") = true := by decide +kernel
theorem mQ_64 : ck_q lw_tbl mi_cl mG_64 0 1 11 [248, 1810, 90] = true := by decide +kernel
set_option maxRecDepth 100000 in
theorem mW_64 : Cond.code ⟨"SafeCode", "isInstruction", "(I)Z"⟩ prog_1_method_8_code 2 (some .boolean) ∈ lw_tbl.filter goodWord := mI_tables_1_7 (List.mem_of_getElem? (i := 124) rfl) rfl
theorem mD_65_0 : ck_t prog_1_method_15_code mT_65_0 = true := by decide +kernel
theorem mD_65 : ck_t prog_1_method_15_code mT_65 = true := mD_65_0
theorem mO_65 : mC_65.all (ck_c lw_tbl (mi_ev []) mi_Gs mi_mq mi_fr mi_lo 65 "SafeCode") = true := by decide +kernel
theorem mQ_65 : ck_q lw_tbl mi_cl mG_65 0 2 11 [248, 1821, 1822] = true := by decide +kernel
set_option maxRecDepth 100000 in
theorem mW_65 : Cond.code ⟨"SafeCode", "kind", "(II)I"⟩ prog_1_method_15_code 3 (some .int) ∈ lw_tbl.filter goodWord := mI_tables_1_7 (List.mem_of_getElem? (i := 136) rfl) rfl
theorem mD_66_0 : ck_t prog_1_method_20_code mT_66_0 = true := by decide +kernel
theorem mD_66 : ck_t prog_1_method_20_code mT_66 = true := mD_66_0
theorem mO_66 : mC_66.all (ck_c lw_tbl (mi_ev []) mi_Gs mi_mq mi_fr mi_lo 66 "SafeCode") = true := by decide +kernel
theorem mQ_66 : ck_q lw_tbl mi_cl mG_66 0 2 11 [248, 1859, 1860] = true := by decide +kernel
set_option maxRecDepth 100000 in
theorem mW_66 : Cond.code ⟨"SafeCode", "lengths", "(II)I"⟩ prog_1_method_20_code 5 (some .int) ∈ lw_tbl.filter goodWord := mI_tables_1_7 (List.mem_of_getElem? (i := 174) rfl) rfl
theorem mD_67_0 : ck_t prog_1_method_5_code mT_67_0 = true := by decide +kernel
theorem mD_67_1 : ck_t prog_1_method_5_code mT_67_1 = true := by decide +kernel
theorem mD_67_2 : ck_t prog_1_method_5_code mT_67_2 = true := by decide +kernel
theorem mD_67 : ck_t prog_1_method_5_code mT_67 = true := ck_t_app mD_67_0 (ck_t_app mD_67_1 mD_67_2)
theorem mO_67 : mC_67.all (ck_c lw_tbl (mi_ev []) mi_Gs mi_mq mi_fr mi_lo 67 "SafeCode") = true := by decide +kernel
theorem mQ_67 : ck_q lw_tbl mi_cl mG_67 0 0 11 [248, 1031, 1032] = true := by decide +kernel
set_option maxRecDepth 100000 in
theorem mW_67 : Cond.code ⟨"SafeCode", "load", "()I"⟩ prog_1_method_5_code 3 (some .int) ∈ lw_tbl.filter goodWord := mI_tables_1_4 (List.mem_of_getElem? (i := 66) rfl) rfl
theorem mD_68_0 : ck_t prog_1_method_16_code mT_68_0 = true := by decide +kernel
theorem mD_68 : ck_t prog_1_method_16_code mT_68 = true := mD_68_0
theorem mO_68 : mC_68.all (ck_c lw_tbl (mi_ev []) mi_Gs mi_mq mi_fr mi_lo 68 "SafeCode") = true := by decide +kernel
theorem mQ_68 : ck_q lw_tbl mi_cl mG_68 0 2 11 [248, 1833, 1834] = true := by decide +kernel
set_option maxRecDepth 100000 in
theorem mW_68 : Cond.code ⟨"SafeCode", "low", "(II)I"⟩ prog_1_method_16_code 3 (some .int) ∈ lw_tbl.filter goodWord := mI_tables_1_7 (List.mem_of_getElem? (i := 148) rfl) rfl
theorem mD_69_0 : ck_t prog_1_method_27_code mT_69_0 = true := by decide +kernel
theorem mD_69 : ck_t prog_1_method_27_code mT_69 = true := mD_69_0
theorem mO_69 : mC_69.all (ck_c lw_tbl (mi_ev []) mi_Gs mi_mq mi_fr mi_lo 69 "SafeCode") = true := by decide +kernel
theorem mQ_69 : ck_q lw_tbl mi_cl mG_69 0 1 11 [248, 2044, 2045] = true := by decide +kernel
set_option maxRecDepth 100000 in
theorem mW_69 : Cond.code ⟨"SafeCode", "out", "(I)I"⟩ prog_1_method_27_code 2 (some .int) ∈ lw_tbl.filter goodWord := mI_tables_1_8 (List.mem_of_getElem? (i := 119) rfl) rfl
