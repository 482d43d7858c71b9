/-! Checks of methods. -/
theorem mD_265_0 : ck_t prog_4_method_22_code mT_265_0 = true := by decide +kernel
theorem mD_265 : ck_t prog_4_method_22_code mT_265 = true := mD_265_0
theorem mO_265 : mC_265.all (ck_c lw_tbl (mi_ev []) mi_Gs mi_mq mi_fr mi_lo 265 "SafeCode$Machine") = true := by decide +kernel
theorem mQ_265 : ck_q lw_tbl mi_cl mG_265 0 2 2 [264, 2023, 123] = true := by decide +kernel
set_option maxRecDepth 100000 in
theorem mW_265 : Cond.code ⟨"SafeCode$Machine", "catchOf", "(II)I"⟩ prog_4_method_22_code 5 (some .int) ∈ lw_tbl.filter goodWord := mI_tables_1_8 (List.mem_of_getElem? (i := 97) rfl) rfl
theorem mD_266_0 : ck_t prog_4_method_10_code mT_266_0 = true := by decide +kernel
theorem mD_266 : ck_t prog_4_method_10_code mT_266 = true := mD_266_0
theorem mO_266 : mC_266.all (ck_c lw_tbl (mi_ev []) mi_Gs mi_mq mi_fr mi_lo 266 "SafeCode$Machine") = true := by decide +kernel
theorem mQ_266 : ck_q lw_tbl mi_cl mG_266 0 1 2 [264, 1943, 106] = true := by decide +kernel
set_option maxRecDepth 100000 in
theorem mW_266 : Cond.code ⟨"SafeCode$Machine", "drop", "(I)V"⟩ prog_4_method_10_code 2 (none) ∈ lw_tbl.filter goodWord := mI_tables_1_8 (List.mem_of_getElem? (i := 17) rfl) rfl
theorem mD_267_0 : ck_t prog_4_method_31_code mT_267_0 = true := by decide +kernel
theorem mD_267 : ck_t prog_4_method_31_code mT_267 = true := mD_267_0
theorem mO_267_0 : ((mC_267.drop 0).take 8).all (ck_c lw_tbl (mi_ev []) mi_Gs mi_mq mi_fr mi_lo 267 "SafeCode$Machine") = true := by decide +kernel
theorem mO_267_1 : ((mC_267.drop 8).take 8).all (ck_c lw_tbl (mi_ev []) mi_Gs mi_mq mi_fr mi_lo 267 "SafeCode$Machine") = true := by decide +kernel
theorem mO_267 : mC_267.all (ck_c lw_tbl (mi_ev []) mi_Gs mi_mq mi_fr mi_lo 267 "SafeCode$Machine") = true := by
  have e : mC_267 = (mC_267.drop 0).take 8 ++ (mC_267.drop 8).take 8 := by decide +kernel
  rw [e]
  simp only [List.all_append, mO_267_0, mO_267_1, Bool.and_true]
theorem mQ_267 : ck_q lw_tbl mi_cl mG_267 0 2 2 [264, 2000, 118] = true := by decide +kernel
set_option maxRecDepth 100000 in
theorem mW_267 : Cond.code ⟨"SafeCode$Machine", "enterBody", "(II)I"⟩ prog_4_method_31_code 6 (some .int) ∈ lw_tbl.filter goodWord := mI_tables_1_8 (List.mem_of_getElem? (i := 74) rfl) rfl
theorem mD_268_0 : ck_t prog_4_method_2_code mT_268_0 = true := by decide +kernel
theorem mD_268_1 : ck_t prog_4_method_2_code mT_268_1 = true := by decide +kernel
theorem mD_268_2 : ck_t prog_4_method_2_code mT_268_2 = true := by decide +kernel
theorem mD_268 : ck_t prog_4_method_2_code mT_268 = true := ck_t_app mD_268_0 (ck_t_app mD_268_1 mD_268_2)
theorem mO_268 : mC_268.all (ck_c lw_tbl (mi_ev []) mi_Gs mi_mq mi_fr mi_lo 268 "SafeCode$Machine") = true := by decide +kernel
theorem mQ_268 : ck_q lw_tbl mi_cl mG_268 0 2 2 [264, 1872, 1873] = true := by decide +kernel
set_option maxRecDepth 100000 in
theorem mW_268 : Cond.code ⟨"SafeCode$Machine", "execute", "(LSafeCode$Program;I)I"⟩ prog_4_method_2_code 6 (some .int) ∈ lw_tbl.filter goodWord := mI_tables_1_7 (List.mem_of_getElem? (i := 187) rfl) rfl
theorem mD_269_0 : ck_t prog_4_method_24_code mT_269_0 = true := by decide +kernel
theorem mD_269 : ck_t prog_4_method_24_code mT_269 = true := mD_269_0
theorem mO_269 : mC_269.all (ck_c lw_tbl (mi_ev []) mi_Gs mi_mq mi_fr mi_lo 269 "SafeCode$Machine") = true := by decide +kernel
theorem mQ_269 : ck_q lw_tbl mi_cl mG_269 0 1 2 [264, 1914, 101] = true := by decide +kernel
set_option maxRecDepth 100000 in
theorem mW_269 : Cond.code ⟨"SafeCode$Machine", "extentOf", "(I)I"⟩ prog_4_method_24_code 2 (some .int) ∈ lw_tbl.filter goodWord := mI_tables_1_7 (List.mem_of_getElem? (i := 228) rfl) rfl
theorem mD_270_0 : ck_t prog_4_method_3_code mT_270_0 = true := by decide +kernel
theorem mD_270 : ck_t prog_4_method_3_code mT_270 = true := mD_270_0
theorem mO_270 : mC_270.all (ck_c lw_tbl (mi_ev []) mi_Gs mi_mq mi_fr mi_lo 270 "SafeCode$Machine") = true := by decide +kernel
theorem mQ_270 : ck_q lw_tbl mi_cl mG_270 0 2 2 [264, 1881, 95] = true := by decide +kernel
set_option maxRecDepth 100000 in
theorem mW_270 : Cond.code ⟨"SafeCode$Machine", "finish", "(II)V"⟩ prog_4_method_3_code 3 (none) ∈ lw_tbl.filter goodWord := mI_tables_1_7 (List.mem_of_getElem? (i := 195) rfl) rfl
