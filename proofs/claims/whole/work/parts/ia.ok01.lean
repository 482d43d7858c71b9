/-! Checks of methods. -/
theorem mD_4_0 : ck_t prog_20_method_154_code mT_4_0 = true := by decide +kernel
theorem mD_4 : ck_t prog_20_method_154_code mT_4 = true := mD_4_0
theorem mO_4 : mC_4.all (ck_c lw_tbl (mi_ev []) mi_Gs mi_mq mi_fr mi_lo 4 "java/lang/String") = true := by decide +kernel
theorem mQ_4 : ck_q lw_tbl mi_cl mG_4 5 0 0 [250, 305, 306] = true := by decide +kernel
set_option maxRecDepth 100000 in
theorem mW_4 : Cond.code ⟨"java/lang/String", "isLatin1", "()Z"⟩ prog_20_method_154_code 1 (some .boolean) ∈ lw_tbl.filter goodWord := mI_tables_1_1 (List.mem_of_getElem? (i := 60) rfl) rfl
theorem mD_5_0 : ck_t prog_20_method_54_code mT_5_0 = true := by decide +kernel
theorem mD_5 : ck_t prog_20_method_54_code mT_5 = true := mD_5_0
theorem mO_5 : mC_5.all (ck_c lw_tbl (mi_ev []) mi_Gs mi_mq mi_fr mi_lo 5 "java/lang/String") = true := by decide +kernel
theorem mQ_5 : ck_q lw_tbl mi_cl mG_5 5 0 0 [250, 291, 292] = true := by decide +kernel
set_option maxRecDepth 100000 in
theorem mW_5 : Cond.code ⟨"java/lang/String", "length", "()I"⟩ prog_20_method_54_code 1 (some .int) ∈ lw_tbl.filter goodWord := mI_tables_1_1 (List.mem_of_getElem? (i := 46) rfl) rfl
theorem mD_6_0 : ck_t prog_18_method_47_code mT_6_0 = true := by decide +kernel
theorem mD_6 : ck_t prog_18_method_47_code mT_6 = true := mD_6_0
theorem mO_6 : mC_6.all (ck_c lw_tbl (mi_ev []) mi_Gs mi_mq mi_fr mi_lo 6 "java/lang/Long") = true := by decide +kernel
theorem mQ_6 : ck_q lw_tbl mi_cl mG_6 3 1 0 [269, 1460] = true := by decide +kernel
set_option maxRecDepth 100000 in
theorem mW_6 : Cond.code ⟨"java/lang/Long", "lowestOneBit", "(J)J"⟩ prog_18_method_47_code 2 (some .long) ∈ lw_tbl.filter goodWord := mI_tables_1_6 (List.mem_of_getElem? (i := 14) rfl) rfl
theorem mD_7_0 : ck_t prog_18_method_49_code mT_7_0 = true := by decide +kernel
theorem mD_7 : ck_t prog_18_method_49_code mT_7 = true := mD_7_0
theorem mO_7 : mC_7.all (ck_c lw_tbl (mi_ev []) mi_Gs mi_mq mi_fr mi_lo 7 "java/lang/Long") = true := by decide +kernel
theorem mQ_7 : ck_q lw_tbl mi_cl mG_7 3 1 0 [269, 1463] = true := by decide +kernel
set_option maxRecDepth 100000 in
theorem mW_7 : Cond.code ⟨"java/lang/Long", "numberOfTrailingZeros", "(J)I"⟩ prog_18_method_49_code 3 (some .int) ∈ lw_tbl.filter goodWord := mI_tables_1_6 (List.mem_of_getElem? (i := 17) rfl) rfl
theorem mD_8_0 : ck_t prog_21_method_2_code mT_8_0 = true := by decide +kernel
theorem mD_8 : ck_t prog_21_method_2_code mT_8 = true := mD_8_0
theorem mO_8 : mC_8.all (ck_c lw_tbl (mi_ev []) mi_Gs mi_mq mi_fr mi_lo 8 "java/lang/StringLatin1") = true := by decide +kernel
theorem mQ_8 : ck_q lw_tbl mi_cl mG_8 3 2 0 [251, 309] = true := by decide +kernel
set_option maxRecDepth 100000 in
theorem mW_8 : Cond.code ⟨"java/lang/StringLatin1", "charAt", "([BI)C"⟩ prog_21_method_2_code 2 (some .char) ∈ lw_tbl.filter goodWord := mI_tables_1_1 (List.mem_of_getElem? (i := 63) rfl) rfl
theorem mD_9_0 : ck_t prog_25_method_11_code mT_9_0 = true := by decide +kernel
theorem mD_9 : ck_t prog_25_method_11_code mT_9 = true := mD_9_0
theorem mO_9 : mC_9.all (ck_c lw_tbl (mi_ev []) mi_Gs mi_mq mi_fr mi_lo 9 "jdk/internal/util/Preconditions") = true := by decide +kernel
theorem mQ_9 : ck_q lw_tbl mi_cl mG_9 3 3 0 [252, 317] = true := by decide +kernel
set_option maxRecDepth 100000 in
theorem mW_9 : Cond.code ⟨"jdk/internal/util/Preconditions", "checkIndex", "(IILjava/util/function/BiFunction;)I"⟩ prog_25_method_11_code 3 (some .int) ∈ lw_tbl.filter goodWord := mI_tables_1_1 (List.mem_of_getElem? (i := 71) rfl) rfl
