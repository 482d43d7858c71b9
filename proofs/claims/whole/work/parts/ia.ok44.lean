/-! Checks of methods. -/
theorem mD_241_0 : ck_t prog_14_method_69_code mT_241_0 = true := by decide +kernel
theorem mD_241 : ck_t prog_14_method_69_code mT_241 = true := mD_241_0
theorem mO_241 : mC_241.all (ck_c lw_tbl (mi_ev []) mi_Gs mi_mq mi_fr mi_lo 241 "SafeCodeModel") = true := by decide +kernel
theorem mQ_241 : ck_q lw_tbl mi_cl mG_241 0 2 13 [265, 2741, 179] = true := by decide +kernel
set_option maxRecDepth 100000 in
theorem mW_241 : Cond.code ⟨"SafeCodeModel", "typesTo", "(LSafeCodeModel$Program;I)Z"⟩ prog_14_method_69_code 7 (some .boolean) ∈ lw_tbl.filter goodWord := mI_tables_1_11 (List.mem_of_getElem? (i := 95) rfl) rfl
theorem mD_242_0 : ck_t prog_14_method_97_code mT_242_0 = true := by decide +kernel
theorem mD_242_1 : ck_t prog_14_method_97_code mT_242_1 = true := by decide +kernel
theorem mD_242_2 : ck_t prog_14_method_97_code mT_242_2 = true := by decide +kernel
theorem mD_242_3 : ck_t prog_14_method_97_code mT_242_3 = true := by decide +kernel
theorem mD_242 : ck_t prog_14_method_97_code mT_242 = true := ck_t_app mD_242_0 (ck_t_app mD_242_1 (ck_t_app mD_242_2 mD_242_3))
theorem mO_242 : mC_242.all (ck_c lw_tbl (mi_ev []) mi_Gs mi_mq mi_fr mi_lo 242 "SafeCodeModel") = true := by decide +kernel
theorem mQ_242 : ck_q lw_tbl mi_cl mG_242 0 2 13 [265, 2813, 191] = true := by decide +kernel
set_option maxRecDepth 100000 in
theorem mW_242 : Cond.code ⟨"SafeCodeModel", "way", "(LSafeCodeModel$Program;I)Z"⟩ prog_14_method_97_code 5 (some .boolean) ∈ lw_tbl.filter goodWord := mI_tables_1_11 (List.mem_of_getElem? (i := 167) rfl) rfl
theorem mD_243_0 : ck_t prog_14_method_102_code mT_243_0 = true := by decide +kernel
theorem mD_243 : ck_t prog_14_method_102_code mT_243 = true := mD_243_0
theorem mO_243 : mC_243.all (ck_c lw_tbl (mi_ev []) mi_Gs mi_mq mi_fr mi_lo 243 "SafeCodeModel") = true := by decide +kernel
theorem mQ_243 : ck_q lw_tbl mi_cl mG_243 0 3 13 [265, 2843, 196] = true := by decide +kernel
set_option maxRecDepth 100000 in
theorem mW_243 : Cond.code ⟨"SafeCodeModel", "without", "(LSafeCodeModel$Program;II)Z"⟩ prog_14_method_102_code 8 (some .boolean) ∈ lw_tbl.filter goodWord := mI_tables_1_11 (List.mem_of_getElem? (i := 197) rfl) rfl
theorem mD_244_0 : ck_t prog_14_method_2_code mT_244_0 = true := by decide +kernel
theorem mD_244 : ck_t prog_14_method_2_code mT_244 = true := mD_244_0
theorem mO_244 : mC_244.all (ck_c lw_tbl (mi_ev []) mi_Gs mi_mq mi_fr mi_lo 244 "SafeCodeModel") = true := by decide +kernel
theorem mQ_244 : ck_q lw_tbl mi_cl mG_244 0 1 13 [265, 2468, 124] = true := by decide +kernel
set_option maxRecDepth 100000 in
theorem mW_244 : Cond.code ⟨"SafeCodeModel", "word", "(I)V"⟩ prog_14_method_2_code 3 (none) ∈ lw_tbl.filter goodWord := mI_tables_1_10 (List.mem_of_getElem? (i := 62) rfl) rfl
theorem mD_245_0 : ck_t prog_14_method_164_code mT_245_0 = true := by decide +kernel
theorem mD_245 : ck_t prog_14_method_164_code mT_245 = true := mD_245_0
theorem mO_245 : mC_245.all (ck_c lw_tbl (mi_ev []) mi_Gs mi_mq mi_fr mi_lo 245 "SafeCodeModel") = true := by decide +kernel
theorem mQ_245 : ck_q lw_tbl mi_cl mG_245 0 0 13 [265, 3133, 3134] = true := by decide +kernel
set_option maxRecDepth 100000 in
theorem mW_245 : Cond.code ⟨"SafeCodeModel", "written", "()I"⟩ prog_14_method_164_code 1 (some .int) ∈ lw_tbl.filter goodWord := mI_tables_1_13 (List.mem_of_getElem? (i := 8) rfl) rfl
theorem mD_246_0 : ck_t prog_14_method_32_code mT_246_0 = true := by decide +kernel
theorem mD_246 : ck_t prog_14_method_32_code mT_246 = true := mD_246_0
theorem mO_246 : mC_246.all (ck_c lw_tbl (mi_ev []) mi_Gs mi_mq mi_fr mi_lo 246 "SafeCodeModel") = true := by decide +kernel
theorem mQ_246 : ck_q lw_tbl mi_cl mG_246 0 1 13 [265, 2598, 149] = true := by decide +kernel
set_option maxRecDepth 100000 in
theorem mW_246 : Cond.code ⟨"SafeCodeModel", "wrong", "(I)Z"⟩ prog_14_method_32_code 2 (some .boolean) ∈ lw_tbl.filter goodWord := mI_tables_1_10 (List.mem_of_getElem? (i := 192) rfl) rfl
