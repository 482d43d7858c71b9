/-! Checks of methods. -/
theorem mD_46_0 : ck_t prog_12_method_19_code mT_46_0 = true := by decide +kernel
theorem mD_46 : ck_t prog_12_method_19_code mT_46 = true := mD_46_0
theorem mO_46 : mC_46.all (ck_c lw_tbl (mi_ev []) mi_Gs mi_mq mi_fr mi_lo 46 "SafeCode$Words") = true := by decide +kernel
theorem mQ_46 : ck_q lw_tbl mi_cl mG_46 0 1 10 [249, 1220, 1221] = true := by decide +kernel
set_option maxRecDepth 100000 in
theorem mW_46 : Cond.code ⟨"SafeCode$Words", "secondOf", "(I)I"⟩ prog_12_method_19_code 2 (some .int) ∈ lw_tbl.filter goodWord := mI_tables_1_5 (List.mem_of_getElem? (i := 15) rfl) rfl
theorem mD_47_0 : ck_t prog_12_method_20_code mT_47_0 = true := by decide +kernel
theorem mD_47 : ck_t prog_12_method_20_code mT_47 = true := mD_47_0
theorem mO_47 : mC_47.all (ck_c lw_tbl (mi_ev []) mi_Gs mi_mq mi_fr mi_lo 47 "SafeCode$Words") = true := by decide +kernel
theorem mQ_47 : ck_q lw_tbl mi_cl mG_47 0 3 10 [249, 1141, 1142] = true := by decide +kernel
set_option maxRecDepth 100000 in
theorem mW_47 : Cond.code ⟨"SafeCode$Words", "setMeaning", "(III)V"⟩ prog_12_method_20_code 4 (none) ∈ lw_tbl.filter goodWord := mI_tables_1_4 (List.mem_of_getElem? (i := 176) rfl) rfl
theorem mD_48_0 : ck_t prog_12_method_3_code mT_48_0 = true := by decide +kernel
theorem mD_48 : ck_t prog_12_method_3_code mT_48 = true := mD_48_0
theorem mO_48 : mC_48.all (ck_c lw_tbl (mi_ev []) mi_Gs mi_mq mi_fr mi_lo 48 "SafeCode$Words") = true := by decide +kernel
theorem mQ_48 : ck_q lw_tbl mi_cl mG_48 0 2 10 [249, 1024, 1025] = true := by decide +kernel
set_option maxRecDepth 100000 in
theorem mW_48 : Cond.code ⟨"SafeCode$Words", "setText", "([BI)V"⟩ prog_12_method_3_code 3 (none) ∈ lw_tbl.filter goodWord := mI_tables_1_4 (List.mem_of_getElem? (i := 59) rfl) rfl
theorem mD_49_0 : ck_t prog_12_method_11_code mT_49_0 = true := by decide +kernel
theorem mD_49_1 : ck_t prog_12_method_11_code mT_49_1 = true := by decide +kernel
theorem mD_49_2 : ck_t prog_12_method_11_code mT_49_2 = true := by decide +kernel
theorem mD_49_3 : ck_t prog_12_method_11_code mT_49_3 = true := by decide +kernel
theorem mD_49 : ck_t prog_12_method_11_code mT_49 = true := ck_t_app mD_49_0 (ck_t_app mD_49_1 (ck_t_app mD_49_2 mD_49_3))
theorem mO_49 : mC_49.all (ck_c lw_tbl (mi_ev []) mi_Gs mi_mq mi_fr mi_lo 49 "SafeCode$Words") = true := by decide +kernel
theorem mQ_49 : ck_q lw_tbl mi_cl mG_49 0 1 10 [249, 365, 6] = true := by decide +kernel
set_option maxRecDepth 100000 in
theorem mW_49 : Cond.code ⟨"SafeCode$Words", "shapeOf", "(I)I"⟩ prog_12_method_11_code 6 (some .int) ∈ lw_tbl.filter goodWord := mI_tables_1_1 (List.mem_of_getElem? (i := 119) rfl) rfl
theorem mD_50_0 : ck_t prog_12_method_10_code mT_50_0 = true := by decide +kernel
theorem mD_50 : ck_t prog_12_method_10_code mT_50 = true := mD_50_0
theorem mO_50 : mC_50.all (ck_c lw_tbl (mi_ev []) mi_Gs mi_mq mi_fr mi_lo 50 "SafeCode$Words") = true := by decide +kernel
theorem mQ_50 : ck_q lw_tbl mi_cl mG_50 0 1 10 [249, 361, 5] = true := by decide +kernel
set_option maxRecDepth 100000 in
theorem mW_50 : Cond.code ⟨"SafeCode$Words", "shapeWords", "(I)V"⟩ prog_12_method_10_code 3 (none) ∈ lw_tbl.filter goodWord := mI_tables_1_1 (List.mem_of_getElem? (i := 115) rfl) rfl
theorem mD_51_0 : ck_t prog_12_method_21_code mT_51_0 = true := by decide +kernel
theorem mD_51 : ck_t prog_12_method_21_code mT_51 = true := mD_51_0
theorem mO_51 : mC_51.all (ck_c lw_tbl (mi_ev []) mi_Gs mi_mq mi_fr mi_lo 51 "SafeCode$Words") = true := by decide +kernel
theorem mQ_51 : ck_q lw_tbl mi_cl mG_51 0 1 10 [249, 1153, 1154] = true := by decide +kernel
set_option maxRecDepth 100000 in
theorem mW_51 : Cond.code ⟨"SafeCode$Words", "typeOf", "(I)I"⟩ prog_12_method_21_code 4 (some .int) ∈ lw_tbl.filter goodWord := mI_tables_1_4 (List.mem_of_getElem? (i := 188) rfl) rfl
