/-! Checks of methods. -/
theorem mD_52_0 : ck_t prog_1_method_4_code mT_52_0 = true := by decide +kernel
theorem mD_52 : ck_t prog_1_method_4_code mT_52 = true := mD_52_0
theorem mO_52 : mC_52.all (ck_c lw_tbl (mi_ev []) mi_Gs mi_mq mi_fr mi_lo 52 "SafeCode") = true := by decide +kernel
theorem mQ_52 : ck_q lw_tbl mi_cl mG_52 0 1 11 [248, 1020, 1021] = true := by decide +kernel
set_option maxRecDepth 100000 in
theorem mW_52 : Cond.code ⟨"SafeCode", "end", "(I)Z"⟩ prog_1_method_4_code 2 (some .boolean) ∈ lw_tbl.filter goodWord := mI_tables_1_4 (List.mem_of_getElem? (i := 55) rfl) rfl
theorem mD_53_0 : ck_t prog_1_method_11_code mT_53_0 = true := by decide +kernel
theorem mD_53 : ck_t prog_1_method_11_code mT_53 = true := mD_53_0
theorem mO_53 : mC_53.all (ck_c lw_tbl (mi_ev []) mi_Gs mi_mq mi_fr mi_lo 53 "SafeCode") = true := by decide +kernel
theorem mQ_53 : ck_q lw_tbl mi_cl mG_53 0 0 11 [248, 1817, 1818] = true := by decide +kernel
set_option maxRecDepth 100000 in
theorem mW_53 : Cond.code ⟨"SafeCode", "ends", "()J"⟩ prog_1_method_11_code 1 (some .long) ∈ lw_tbl.filter goodWord := mI_tables_1_7 (List.mem_of_getElem? (i := 132) rfl) rfl
theorem mD_54_0 : ck_t prog_1_method_9_code mT_54_0 = true := by decide +kernel
theorem mD_54 : ck_t prog_1_method_9_code mT_54 = true := mD_54_0
theorem mO_54 : mC_54.all (ck_c lw_tbl (mi_ev []) mi_Gs mi_mq mi_fr mi_lo 54 "SafeCode") = true := by decide +kernel
theorem mQ_54 : ck_q lw_tbl mi_cl mG_54 0 1 11 [248, 1805, 1806] = true := by decide +kernel
set_option maxRecDepth 100000 in
theorem mW_54 : Cond.code ⟨"SafeCode", "errors", "(I)I"⟩ prog_1_method_9_code 2 (some .int) ∈ lw_tbl.filter goodWord := mI_tables_1_7 (List.mem_of_getElem? (i := 120) rfl) rfl
theorem mD_55_0 : ck_t prog_1_method_10_code mT_55_0 = true := by decide +kernel
theorem mD_55 : ck_t prog_1_method_10_code mT_55 = true := mD_55_0
theorem mO_55 : mC_55.all (ck_c lw_tbl (mi_ev []) mi_Gs mi_mq mi_fr mi_lo 55 "SafeCode") = true := by decide +kernel
theorem mQ_55 : ck_q lw_tbl mi_cl mG_55 0 1 11 [248, 1813, 1814] = true := by decide +kernel
set_option maxRecDepth 100000 in
theorem mW_55 : Cond.code ⟨"SafeCode", "escapes", "(I)J"⟩ prog_1_method_10_code 2 (some .long) ∈ lw_tbl.filter goodWord := mI_tables_1_7 (List.mem_of_getElem? (i := 128) rfl) rfl
theorem mD_56_0 : ck_t prog_1_method_19_code mT_56_0 = true := by decide +kernel
theorem mD_56 : ck_t prog_1_method_19_code mT_56 = true := mD_56_0
theorem mO_56 : mC_56.all (ck_c lw_tbl (mi_ev []) mi_Gs mi_mq mi_fr mi_lo 56 "SafeCode") = true := by decide +kernel
theorem mQ_56 : ck_q lw_tbl mi_cl mG_56 0 3 11 [248, 1853, 1854] = true := by decide +kernel
set_option maxRecDepth 100000 in
theorem mW_56 : Cond.code ⟨"SafeCode", "fact", "(III)I"⟩ prog_1_method_19_code 6 (some .int) ∈ lw_tbl.filter goodWord := mI_tables_1_7 (List.mem_of_getElem? (i := 168) rfl) rfl
theorem mD_57_0 : ck_t prog_1_method_13_code mT_57_0 = true := by decide +kernel
theorem mD_57 : ck_t prog_1_method_13_code mT_57 = true := mD_57_0
theorem mO_57 : mC_57.all (ck_c lw_tbl (mi_ev []) mi_Gs mi_mq mi_fr mi_lo 57 "SafeCode") = true := by decide +kernel
theorem mQ_57 : ck_q lw_tbl mi_cl mG_57 0 2 11 [248, 1826, 91] = true := by decide +kernel
set_option maxRecDepth 100000 in
theorem mW_57 : Cond.code ⟨"SafeCode", "factsAt", "(II)J"⟩ prog_1_method_13_code 4 (some .long) ∈ lw_tbl.filter goodWord := mI_tables_1_7 (List.mem_of_getElem? (i := 140) rfl) rfl
