/-! Checks of methods. -/
theorem mD_171_0 : ck_t prog_14_method_130_code mT_171_0 = true := by decide +kernel
theorem mD_171 : ck_t prog_14_method_130_code mT_171 = true := mD_171_0
theorem mO_171 : mC_171.all (ck_c lw_tbl (mi_ev []) mi_Gs mi_mq mi_fr mi_lo 171 "SafeCodeModel") = true := by decide +kernel
theorem mQ_171 : ck_q lw_tbl mi_cl mG_171 0 2 13 [265, 2993, 2994] = true := by decide +kernel
set_option maxRecDepth 100000 in
theorem mW_171 : Cond.code ⟨"SafeCodeModel", "kind", "(II)I"⟩ prog_14_method_130_code 4 (some .int) ∈ lw_tbl.filter goodWord := mI_tables_1_12 (List.mem_of_getElem? (i := 108) rfl) rfl
theorem mD_172_0 : ck_t prog_14_method_43_code mT_172_0 = true := by decide +kernel
theorem mD_172 : ck_t prog_14_method_43_code mT_172 = true := mD_172_0
theorem mO_172 : mC_172.all (ck_c lw_tbl (mi_ev []) mi_Gs mi_mq mi_fr mi_lo 172 "SafeCodeModel") = true := by decide +kernel
theorem mQ_172 : ck_q lw_tbl mi_cl mG_172 0 1 13 [265, 2658, 163] = true := by decide +kernel
set_option maxRecDepth 100000 in
theorem mW_172 : Cond.code ⟨"SafeCodeModel", "label", "(I)I"⟩ prog_14_method_43_code 3 (some .int) ∈ lw_tbl.filter goodWord := mI_tables_1_11 (List.mem_of_getElem? (i := 12) rfl) rfl
theorem mD_173_0 : ck_t prog_14_method_44_code mT_173_0 = true := by decide +kernel
theorem mD_173 : ck_t prog_14_method_44_code mT_173 = true := mD_173_0
theorem mO_173 : mC_173.all (ck_c lw_tbl (mi_ev []) mi_Gs mi_mq mi_fr mi_lo 173 "SafeCodeModel") = true := by decide +kernel
theorem mQ_173 : ck_q lw_tbl mi_cl mG_173 0 1 13 [265, 2666, 165] = true := by decide +kernel
set_option maxRecDepth 100000 in
theorem mW_173 : Cond.code ⟨"SafeCodeModel", "labelAt", "(I)I"⟩ prog_14_method_44_code 3 (some .int) ∈ lw_tbl.filter goodWord := mI_tables_1_11 (List.mem_of_getElem? (i := 20) rfl) rfl
theorem mD_174_0 : ck_t prog_14_method_70_code mT_174_0 = true := by decide +kernel
theorem mD_174 : ck_t prog_14_method_70_code mT_174 = true := mD_174_0
theorem mO_174 : mC_174.all (ck_c lw_tbl (mi_ev []) mi_Gs mi_mq mi_fr mi_lo 174 "SafeCodeModel") = true := by decide +kernel
theorem mQ_174 : ck_q lw_tbl mi_cl mG_174 0 1 13 [265, 2758, 181] = true := by decide +kernel
set_option maxRecDepth 100000 in
theorem mW_174 : Cond.code ⟨"SafeCodeModel", "leave", "(I)V"⟩ prog_14_method_70_code 2 (none) ∈ lw_tbl.filter goodWord := mI_tables_1_11 (List.mem_of_getElem? (i := 112) rfl) rfl
theorem mD_175_0 : ck_t prog_14_method_84_code mT_175_0 = true := by decide +kernel
theorem mD_175 : ck_t prog_14_method_84_code mT_175 = true := mD_175_0
theorem mO_175 : mC_175.all (ck_c lw_tbl (mi_ev []) mi_Gs mi_mq mi_fr mi_lo 175 "SafeCodeModel") = true := by decide +kernel
theorem mQ_175 : ck_q lw_tbl mi_cl mG_175 0 3 13 [265, 2862, 200] = true := by decide +kernel
set_option maxRecDepth 100000 in
theorem mW_175 : Cond.code ⟨"SafeCodeModel", "leaveRange", "(LSafeCodeModel$Program;JJ)V"⟩ prog_14_method_84_code 6 (none) ∈ lw_tbl.filter goodWord := mI_tables_1_11 (List.mem_of_getElem? (i := 216) rfl) rfl
theorem mD_176_0 : ck_t prog_14_method_85_code mT_176_0 = true := by decide +kernel
theorem mD_176 : ck_t prog_14_method_85_code mT_176 = true := mD_176_0
theorem mO_176 : mC_176.all (ck_c lw_tbl (mi_ev []) mi_Gs mi_mq mi_fr mi_lo 176 "SafeCodeModel") = true := by decide +kernel
theorem mQ_176 : ck_q lw_tbl mi_cl mG_176 0 1 13 [265, 2872, 202] = true := by decide +kernel
set_option maxRecDepth 100000 in
theorem mW_176 : Cond.code ⟨"SafeCodeModel", "leaveSites", "(J)V"⟩ prog_14_method_85_code 3 (none) ∈ lw_tbl.filter goodWord := mI_tables_1_11 (List.mem_of_getElem? (i := 226) rfl) rfl
