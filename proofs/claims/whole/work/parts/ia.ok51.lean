/-! Checks of methods. -/
theorem mD_283_0 : ck_t prog_4_method_14_code mT_283_0 = true := by decide +kernel
theorem mD_283_1 : ck_t prog_4_method_14_code mT_283_1 = true := by decide +kernel
theorem mD_283_2 : ck_t prog_4_method_14_code mT_283_2 = true := by decide +kernel
theorem mD_283 : ck_t prog_4_method_14_code mT_283 = true := ck_t_app mD_283_0 (ck_t_app mD_283_1 mD_283_2)
theorem mO_283 : mC_283.all (ck_c lw_tbl (mi_ev []) mi_Gs mi_mq mi_fr mi_lo 283 "SafeCode$Machine") = true := by decide +kernel
theorem mQ_283 : ck_q lw_tbl mi_cl mG_283 0 2 2 [264, 1922, 103] = true := by decide +kernel
set_option maxRecDepth 100000 in
theorem mW_283 : Cond.code ⟨"SafeCode$Machine", "move", "(II)I"⟩ prog_4_method_14_code 6 (some .int) ∈ lw_tbl.filter goodWord := mI_tables_1_7 (List.mem_of_getElem? (i := 236) rfl) rfl
theorem mD_284_0 : ck_t prog_4_method_6_code mT_284_0 = true := by decide +kernel
theorem mD_284 : ck_t prog_4_method_6_code mT_284 = true := mD_284_0
theorem mO_284 : mC_284.all (ck_c lw_tbl (mi_ev []) mi_Gs mi_mq mi_fr mi_lo 284 "SafeCode$Machine") = true := by decide +kernel
theorem mQ_284 : ck_q lw_tbl mi_cl mG_284 0 0 2 [264, 1947, 107] = true := by decide +kernel
set_option maxRecDepth 100000 in
theorem mW_284 : Cond.code ⟨"SafeCode$Machine", "next", "()I"⟩ prog_4_method_6_code 1 (some .int) ∈ lw_tbl.filter goodWord := mI_tables_1_8 (List.mem_of_getElem? (i := 21) rfl) rfl
theorem mD_285_0 : ck_t prog_4_method_29_code mT_285_0 = true := by decide +kernel
theorem mD_285 : ck_t prog_4_method_29_code mT_285 = true := mD_285_0
theorem mO_285 : mC_285.all (ck_c lw_tbl (mi_ev []) mi_Gs mi_mq mi_fr mi_lo 285 "SafeCode$Machine") = true := by decide +kernel
theorem mQ_285 : ck_q lw_tbl mi_cl mG_285 0 0 2 [264, 2011, 120] = true := by decide +kernel
set_option maxRecDepth 100000 in
theorem mW_285 : Cond.code ⟨"SafeCode$Machine", "nextInput", "()I"⟩ prog_4_method_29_code 2 (some .int) ∈ lw_tbl.filter goodWord := mI_tables_1_8 (List.mem_of_getElem? (i := 85) rfl) rfl
theorem mD_286_0 : ck_t prog_4_method_8_code mT_286_0 = true := by decide +kernel
theorem mD_286 : ck_t prog_4_method_8_code mT_286 = true := mD_286_0
theorem mO_286 : mC_286.all (ck_c lw_tbl (mi_ev []) mi_Gs mi_mq mi_fr mi_lo 286 "SafeCode$Machine") = true := by decide +kernel
theorem mQ_286 : ck_q lw_tbl mi_cl mG_286 0 1 2 [264, 1955, 109] = true := by decide +kernel
set_option maxRecDepth 100000 in
theorem mW_286 : Cond.code ⟨"SafeCode$Machine", "numberAt", "(I)I"⟩ prog_4_method_8_code 2 (some .int) ∈ lw_tbl.filter goodWord := mI_tables_1_8 (List.mem_of_getElem? (i := 29) rfl) rfl
theorem mD_287_0 : ck_t prog_4_method_5_code mT_287_0 = true := by decide +kernel
theorem mD_287_1 : ck_t prog_4_method_5_code mT_287_1 = true := by decide +kernel
theorem mD_287_2 : ck_t prog_4_method_5_code mT_287_2 = true := by decide +kernel
theorem mD_287_3 : ck_t prog_4_method_5_code mT_287_3 = true := by decide +kernel
theorem mD_287 : ck_t prog_4_method_5_code mT_287 = true := ck_t_app mD_287_0 (ck_t_app mD_287_1 (ck_t_app mD_287_2 mD_287_3))
theorem mO_287_0 : ((mC_287.drop 0).take 8).all (ck_c lw_tbl (mi_ev []) mi_Gs mi_mq mi_fr mi_lo 287 "SafeCode$Machine") = true := by decide +kernel
theorem mO_287_1 : ((mC_287.drop 8).take 8).all (ck_c lw_tbl (mi_ev []) mi_Gs mi_mq mi_fr mi_lo 287 "SafeCode$Machine") = true := by decide +kernel
theorem mO_287 : mC_287.all (ck_c lw_tbl (mi_ev []) mi_Gs mi_mq mi_fr mi_lo 287 "SafeCode$Machine") = true := by
  have e : mC_287 = (mC_287.drop 0).take 8 ++ (mC_287.drop 8).take 8 := by decide +kernel
  rw [e]
  simp only [List.all_append, mO_287_0, mO_287_1, Bool.and_true]
theorem mQ_287 : ck_q lw_tbl mi_cl mG_287 0 1 2 [264, 1918, 102] = true := by decide +kernel
set_option maxRecDepth 100000 in
theorem mW_287 : Cond.code ⟨"SafeCode$Machine", "perform", "(I)I"⟩ prog_4_method_5_code 3 (some .int) ∈ lw_tbl.filter goodWord := mI_tables_1_7 (List.mem_of_getElem? (i := 232) rfl) rfl
