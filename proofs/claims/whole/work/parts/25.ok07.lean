/-! Checks of methods. -/
theorem mD_39_0 : ck_t prog_1_method_15_code mT_39_0 = true := by decide +kernel
theorem mD_39 : ck_t prog_1_method_15_code mT_39 = true := mD_39_0
theorem mO_39 : mC_39.all (ck_c lw_tbl (mi_ev []) mi_Gs mi_mq mi_fr mi_lo 39 "SafeCode") = true := by decide +kernel
theorem mQ_39 : ck_q lw_tbl mi_cl mG_39 0 2 11 [248, 1821, 1822] = true := by decide +kernel
set_option maxRecDepth 100000 in
theorem mW_39 : Cond.code ⟨"SafeCode", "kind", "(II)I"⟩ prog_1_method_15_code 3 (some .int) ∈ lw_tbl.filter goodWord := mI_tables_1_7 (List.mem_of_getElem? (i := 136) rfl) rfl
theorem mD_40_0 : ck_t prog_1_method_20_code mT_40_0 = true := by decide +kernel
theorem mD_40 : ck_t prog_1_method_20_code mT_40 = true := mD_40_0
theorem mO_40 : mC_40.all (ck_c lw_tbl (mi_ev []) mi_Gs mi_mq mi_fr mi_lo 40 "SafeCode") = true := by decide +kernel
theorem mQ_40 : ck_q lw_tbl mi_cl mG_40 0 2 11 [248, 1859, 1860] = true := by decide +kernel
set_option maxRecDepth 100000 in
theorem mW_40 : Cond.code ⟨"SafeCode", "lengths", "(II)I"⟩ prog_1_method_20_code 5 (some .int) ∈ lw_tbl.filter goodWord := mI_tables_1_7 (List.mem_of_getElem? (i := 174) rfl) rfl
theorem mD_41_0 : ck_t prog_1_method_5_code mT_41_0 = true := by decide +kernel
theorem mD_41_1 : ck_t prog_1_method_5_code mT_41_1 = true := by decide +kernel
theorem mD_41_2 : ck_t prog_1_method_5_code mT_41_2 = true := by decide +kernel
theorem mD_41 : ck_t prog_1_method_5_code mT_41 = true := ck_t_app mD_41_0 (ck_t_app mD_41_1 mD_41_2)
theorem mO_41 : mC_41.all (ck_c lw_tbl (mi_ev []) mi_Gs mi_mq mi_fr mi_lo 41 "SafeCode") = true := by decide +kernel
theorem mQ_41 : ck_q lw_tbl mi_cl mG_41 0 0 11 [248, 1031, 1032] = true := by decide +kernel
set_option maxRecDepth 100000 in
theorem mW_41 : Cond.code ⟨"SafeCode", "load", "()I"⟩ prog_1_method_5_code 3 (some .int) ∈ lw_tbl.filter goodWord := mI_tables_1_4 (List.mem_of_getElem? (i := 66) rfl) rfl
theorem mD_42_0 : ck_t prog_1_method_16_code mT_42_0 = true := by decide +kernel
theorem mD_42 : ck_t prog_1_method_16_code mT_42 = true := mD_42_0
theorem mO_42 : mC_42.all (ck_c lw_tbl (mi_ev []) mi_Gs mi_mq mi_fr mi_lo 42 "SafeCode") = true := by decide +kernel
theorem mQ_42 : ck_q lw_tbl mi_cl mG_42 0 2 11 [248, 1833, 1834] = true := by decide +kernel
set_option maxRecDepth 100000 in
theorem mW_42 : Cond.code ⟨"SafeCode", "low", "(II)I"⟩ prog_1_method_16_code 3 (some .int) ∈ lw_tbl.filter goodWord := mI_tables_1_7 (List.mem_of_getElem? (i := 148) rfl) rfl
theorem mD_43_0 : ck_t prog_1_method_27_code mT_43_0 = true := by decide +kernel
theorem mD_43 : ck_t prog_1_method_27_code mT_43 = true := mD_43_0
theorem mO_43 : mC_43.all (ck_c lw_tbl (mi_ev []) mi_Gs mi_mq mi_fr mi_lo 43 "SafeCode") = true := by decide +kernel
theorem mQ_43 : ck_q lw_tbl mi_cl mG_43 0 1 11 [248, 2044, 2045] = true := by decide +kernel
set_option maxRecDepth 100000 in
theorem mW_43 : Cond.code ⟨"SafeCode", "out", "(I)I"⟩ prog_1_method_27_code 2 (some .int) ∈ lw_tbl.filter goodWord := mI_tables_1_8 (List.mem_of_getElem? (i := 119) rfl) rfl
theorem mD_44_0 : ck_t prog_1_method_24_code mT_44_0 = true := by decide +kernel
theorem mD_44 : ck_t prog_1_method_24_code mT_44 = true := mD_44_0
theorem mO_44 : mC_44.all (ck_c lw_tbl (mi_ev []) mi_Gs mi_mq mi_fr mi_lo 44 "SafeCode") = true := by decide +kernel
theorem mQ_44 : ck_q lw_tbl mi_cl mG_44 0 0 11 [248, 2032, 2033] = true := by decide +kernel
set_option maxRecDepth 100000 in
theorem mW_44 : Cond.code ⟨"SafeCode", "place", "()I"⟩ prog_1_method_24_code 1 (some .int) ∈ lw_tbl.filter goodWord := mI_tables_1_8 (List.mem_of_getElem? (i := 107) rfl) rfl
