/-! Checks of methods. -/
theorem mD_102_0 : ck_t prog_8_method_2_code mT_102_0 = true := by decide +kernel
theorem mD_102 : ck_t prog_8_method_2_code mT_102 = true := mD_102_0
theorem mO_102 : mC_102.all (ck_c lw_tbl (mi_ev []) mi_Gs mi_mq mi_fr mi_lo 102 "SafeCode$Reader") = true := by decide +kernel
theorem mQ_102 : ck_q lw_tbl mi_cl mG_102 0 0 6 [259, 1043, 1044] = true := by decide +kernel
set_option maxRecDepth 100000 in
theorem mW_102 : Cond.code ⟨"SafeCode$Reader", "checkForm", "()I"⟩ prog_8_method_2_code 3 (some .int) ∈ lw_tbl.filter goodWord := mI_tables_1_4 (List.mem_of_getElem? (i := 78) rfl) rfl
theorem mD_103_0 : ck_t prog_8_method_1_code mT_103_0 = true := by decide +kernel
theorem mD_103 : ck_t prog_8_method_1_code mT_103 = true := mD_103_0
theorem mO_103 : mC_103.all (ck_c lw_tbl (mi_ev []) mi_Gs mi_mq mi_fr mi_lo 103 "SafeCode$Reader") = true := by decide +kernel
theorem mQ_103 : ck_q lw_tbl mi_cl mG_103 1 2 0 [259, 701] = true := by decide +kernel
set_option maxRecDepth 100000 in
theorem mW_103 : Cond.code ⟨"SafeCode$Reader", "<init>", "(LSafeCode$Words;LSafeCode$Program;)V"⟩ prog_8_method_1_code 3 (none) ∈ lw_tbl.filter goodWord := mI_tables_1_2 (List.mem_of_getElem? (i := 215) rfl) rfl
theorem mD_104_0 : ck_t prog_8_method_11_code mT_104_0 = true := by decide +kernel
theorem mD_104 : ck_t prog_8_method_11_code mT_104 = true := mD_104_0
theorem mO_104 : mC_104.all (ck_c lw_tbl (mi_ev []) mi_Gs mi_mq mi_fr mi_lo 104 "SafeCode$Reader") = true := by decide +kernel
theorem mQ_104 : ck_q lw_tbl mi_cl mG_104 0 1 6 [259, 1094, 1095] = true := by decide +kernel
set_option maxRecDepth 100000 in
theorem mW_104 : Cond.code ⟨"SafeCode$Reader", "resolveNames", "(LSafeCode$Program;)I"⟩ prog_8_method_11_code 4 (some .int) ∈ lw_tbl.filter goodWord := mI_tables_1_4 (List.mem_of_getElem? (i := 129) rfl) rfl
theorem mD_105_0 : ck_t prog_8_method_12_code mT_105_0 = true := by decide +kernel
theorem mD_105_1 : ck_t prog_8_method_12_code mT_105_1 = true := by decide +kernel
theorem mD_105 : ck_t prog_8_method_12_code mT_105 = true := ck_t_app mD_105_0 mD_105_1
theorem mO_105 : mC_105.all (ck_c lw_tbl (mi_ev []) mi_Gs mi_mq mi_fr mi_lo 105 "SafeCode$Reader") = true := by decide +kernel
theorem mQ_105 : ck_q lw_tbl mi_cl mG_105 0 0 6 [259, 1133, 22] = true := by decide +kernel
set_option maxRecDepth 100000 in
theorem mW_105 : Cond.code ⟨"SafeCode$Reader", "walkClasses", "()I"⟩ prog_8_method_12_code 6 (some .int) ∈ lw_tbl.filter goodWord := mI_tables_1_4 (List.mem_of_getElem? (i := 167) rfl) rfl
theorem mD_106_0 : ck_t prog_8_method_13_code mT_106_0 = true := by decide +kernel
theorem mD_106 : ck_t prog_8_method_13_code mT_106 = true := mD_106_0
theorem mO_106 : mC_106.all (ck_c lw_tbl (mi_ev []) mi_Gs mi_mq mi_fr mi_lo 106 "SafeCode$Reader") = true := by decide +kernel
theorem mQ_106 : ck_q lw_tbl mi_cl mG_106 0 0 6 [259, 1146, 23] = true := by decide +kernel
set_option maxRecDepth 100000 in
theorem mW_106 : Cond.code ⟨"SafeCode$Reader", "walkMembers", "()I"⟩ prog_8_method_13_code 6 (some .int) ∈ lw_tbl.filter goodWord := mI_tables_1_4 (List.mem_of_getElem? (i := 180) rfl) rfl
theorem mD_107_0 : ck_t prog_9_method_2_code mT_107_0 = true := by decide +kernel
theorem mD_107 : ck_t prog_9_method_2_code mT_107 = true := mD_107_0
theorem mO_107 : mC_107.all (ck_c lw_tbl (mi_ev []) mi_Gs mi_mq mi_fr mi_lo 107 "SafeCode$States") = true := by decide +kernel
theorem mQ_107 : ck_q lw_tbl mi_cl mG_107 3 1 0 [262, 1553] = true := by decide +kernel
set_option maxRecDepth 100000 in
theorem mW_107 : Cond.code ⟨"SafeCode$States", "copyOf", "(J)I"⟩ prog_9_method_2_code 2 (some .int) ∈ lw_tbl.filter goodWord := mI_tables_1_6 (List.mem_of_getElem? (i := 107) rfl) rfl
