/-! Checks of methods. -/
theorem mD_27_0 : ck_t prog_1_method_11_code mT_27_0 = true := by decide +kernel
theorem mD_27 : ck_t prog_1_method_11_code mT_27 = true := mD_27_0
theorem mO_27 : mC_27.all (ck_c lw_tbl (mi_ev []) mi_Gs mi_mq mi_fr mi_lo 27 "SafeCode") = true := by decide +kernel
theorem mQ_27 : ck_q lw_tbl mi_cl mG_27 0 0 11 [248, 1817, 1818] = true := by decide +kernel
set_option maxRecDepth 100000 in
theorem mW_27 : Cond.code ⟨"SafeCode", "ends", "()J"⟩ prog_1_method_11_code 1 (some .long) ∈ lw_tbl.filter goodWord := mI_tables_1_7 (List.mem_of_getElem? (i := 132) rfl) rfl
theorem mD_28_0 : ck_t prog_1_method_9_code mT_28_0 = true := by decide +kernel
theorem mD_28 : ck_t prog_1_method_9_code mT_28 = true := mD_28_0
theorem mO_28 : mC_28.all (ck_c lw_tbl (mi_ev []) mi_Gs mi_mq mi_fr mi_lo 28 "SafeCode") = true := by decide +kernel
theorem mQ_28 : ck_q lw_tbl mi_cl mG_28 0 1 11 [248, 1805, 1806] = true := by decide +kernel
set_option maxRecDepth 100000 in
theorem mW_28 : Cond.code ⟨"SafeCode", "errors", "(I)I"⟩ prog_1_method_9_code 2 (some .int) ∈ lw_tbl.filter goodWord := mI_tables_1_7 (List.mem_of_getElem? (i := 120) rfl) rfl
theorem mD_29_0 : ck_t prog_1_method_10_code mT_29_0 = true := by decide +kernel
theorem mD_29 : ck_t prog_1_method_10_code mT_29 = true := mD_29_0
theorem mO_29 : mC_29.all (ck_c lw_tbl (mi_ev []) mi_Gs mi_mq mi_fr mi_lo 29 "SafeCode") = true := by decide +kernel
theorem mQ_29 : ck_q lw_tbl mi_cl mG_29 0 1 11 [248, 1813, 1814] = true := by decide +kernel
set_option maxRecDepth 100000 in
theorem mW_29 : Cond.code ⟨"SafeCode", "escapes", "(I)J"⟩ prog_1_method_10_code 2 (some .long) ∈ lw_tbl.filter goodWord := mI_tables_1_7 (List.mem_of_getElem? (i := 128) rfl) rfl
theorem mD_30_0 : ck_t prog_1_method_19_code mT_30_0 = true := by decide +kernel
theorem mD_30 : ck_t prog_1_method_19_code mT_30 = true := mD_30_0
theorem mO_30 : mC_30.all (ck_c lw_tbl (mi_ev []) mi_Gs mi_mq mi_fr mi_lo 30 "SafeCode") = true := by decide +kernel
theorem mQ_30 : ck_q lw_tbl mi_cl mG_30 0 3 11 [248, 1853, 1854] = true := by decide +kernel
set_option maxRecDepth 100000 in
theorem mW_30 : Cond.code ⟨"SafeCode", "fact", "(III)I"⟩ prog_1_method_19_code 6 (some .int) ∈ lw_tbl.filter goodWord := mI_tables_1_7 (List.mem_of_getElem? (i := 168) rfl) rfl
theorem mD_31_0 : ck_t prog_1_method_13_code mT_31_0 = true := by decide +kernel
theorem mD_31 : ck_t prog_1_method_13_code mT_31 = true := mD_31_0
theorem mO_31 : mC_31.all (ck_c lw_tbl (mi_ev []) mi_Gs mi_mq mi_fr mi_lo 31 "SafeCode") = true := by decide +kernel
theorem mQ_31 : ck_q lw_tbl mi_cl mG_31 0 2 11 [248, 1826, 91] = true := by decide +kernel
set_option maxRecDepth 100000 in
theorem mW_31 : Cond.code ⟨"SafeCode", "factsAt", "(II)J"⟩ prog_1_method_13_code 4 (some .long) ∈ lw_tbl.filter goodWord := mI_tables_1_7 (List.mem_of_getElem? (i := 140) rfl) rfl
theorem mD_32_0 : ck_t prog_1_method_6_code mT_32_0 = true := by decide +kernel
theorem mD_32 : ck_t prog_1_method_6_code mT_32 = true := mD_32_0
theorem mO_32 : mC_32.all (ck_c lw_tbl (mi_ev []) mi_Gs mi_mq mi_fr mi_lo 32 "SafeCode") = true := by decide +kernel
theorem mQ_32 : ck_q lw_tbl mi_cl mG_32 0 0 11 [248, 1797, 1798] = true := by decide +kernel
set_option maxRecDepth 100000 in
theorem mW_32 : Cond.code ⟨"SafeCode", "faultAt", "()I"⟩ prog_1_method_6_code 1 (some .int) ∈ lw_tbl.filter goodWord := mI_tables_1_7 (List.mem_of_getElem? (i := 112) rfl) rfl
