/-! Checks of methods. -/
theorem mD_294_0 : ck_t prog_4_method_27_code mT_294_0 = true := by decide +kernel
theorem mD_294 : ck_t prog_4_method_27_code mT_294 = true := mD_294_0
theorem mO_294 : mC_294.all (ck_c lw_tbl (mi_ev []) mi_Gs mi_mq mi_fr mi_lo 294 "SafeCode$Machine") = true := by decide +kernel
theorem mQ_294 : ck_q lw_tbl mi_cl mG_294 0 2 2 [264, 1992, 116] = true := by decide +kernel
set_option maxRecDepth 100000 in
theorem mW_294 : Cond.code ⟨"SafeCode$Machine", "useField", "(II)I"⟩ prog_4_method_27_code 7 (some .int) ∈ lw_tbl.filter goodWord := mI_tables_1_8 (List.mem_of_getElem? (i := 66) rfl) rfl
theorem mD_295_0 : ck_t prog_4_method_28_code mT_295_0 = true := by decide +kernel
theorem mD_295 : ck_t prog_4_method_28_code mT_295 = true := mD_295_0
theorem mO_295 : mC_295.all (ck_c lw_tbl (mi_ev []) mi_Gs mi_mq mi_fr mi_lo 295 "SafeCode$Machine") = true := by decide +kernel
theorem mQ_295 : ck_q lw_tbl mi_cl mG_295 0 2 2 [264, 1996, 117] = true := by decide +kernel
set_option maxRecDepth 100000 in
theorem mW_295 : Cond.code ⟨"SafeCode$Machine", "useType", "(II)I"⟩ prog_4_method_28_code 5 (some .int) ∈ lw_tbl.filter goodWord := mI_tables_1_8 (List.mem_of_getElem? (i := 70) rfl) rfl
theorem mD_296_0 : ck_t prog_4_method_30_code mT_296_0 = true := by decide +kernel
theorem mD_296 : ck_t prog_4_method_30_code mT_296 = true := mD_296_0
theorem mO_296 : mC_296.all (ck_c lw_tbl (mi_ev []) mi_Gs mi_mq mi_fr mi_lo 296 "SafeCode$Machine") = true := by decide +kernel
theorem mQ_296 : ck_q lw_tbl mi_cl mG_296 0 0 2 [264, 2015, 121] = true := by decide +kernel
set_option maxRecDepth 100000 in
theorem mW_296 : Cond.code ⟨"SafeCode$Machine", "write", "()I"⟩ prog_4_method_30_code 1 (some .int) ∈ lw_tbl.filter goodWord := mI_tables_1_8 (List.mem_of_getElem? (i := 89) rfl) rfl
theorem mD_297_0 : ck_t prog_5_method_3_code mT_297_0 = true := by decide +kernel
theorem mD_297 : ck_t prog_5_method_3_code mT_297 = true := mD_297_0
theorem mO_297 : mC_297.all (ck_c lw_tbl (mi_ev []) mi_Gs mi_mq mi_fr mi_lo 297 "SafeCode$Program") = true := by decide +kernel
theorem mQ_297 : ck_q lw_tbl mi_cl mG_297 0 5 3 [255, 1245, 1246] = true := by decide +kernel
set_option maxRecDepth 100000 in
theorem mW_297 : Cond.code ⟨"SafeCode$Program", "add", "(IIIII)V"⟩ prog_5_method_3_code 6 (none) ∈ lw_tbl.filter goodWord := mI_tables_1_5 (List.mem_of_getElem? (i := 40) rfl) rfl
theorem mD_298_0 : ck_t prog_5_method_5_code mT_298_0 = true := by decide +kernel
theorem mD_298 : ck_t prog_5_method_5_code mT_298 = true := mD_298_0
theorem mO_298 : mC_298.all (ck_c lw_tbl (mi_ev []) mi_Gs mi_mq mi_fr mi_lo 298 "SafeCode$Program") = true := by decide +kernel
theorem mQ_298 : ck_q lw_tbl mi_cl mG_298 0 4 3 [255, 1225, 1226] = true := by decide +kernel
set_option maxRecDepth 100000 in
theorem mW_298 : Cond.code ⟨"SafeCode$Program", "addCatch", "(IIII)V"⟩ prog_5_method_5_code 5 (none) ∈ lw_tbl.filter goodWord := mI_tables_1_5 (List.mem_of_getElem? (i := 20) rfl) rfl
theorem mD_299_0 : ck_t prog_5_method_4_code mT_299_0 = true := by decide +kernel
theorem mD_299 : ck_t prog_5_method_4_code mT_299 = true := mD_299_0
theorem mO_299 : mC_299.all (ck_c lw_tbl (mi_ev []) mi_Gs mi_mq mi_fr mi_lo 299 "SafeCode$Program") = true := by decide +kernel
theorem mQ_299 : ck_q lw_tbl mi_cl mG_299 0 1 3 [255, 1241, 1242] = true := by decide +kernel
set_option maxRecDepth 100000 in
theorem mW_299 : Cond.code ⟨"SafeCode$Program", "addSite", "(I)I"⟩ prog_5_method_4_code 2 (some .int) ∈ lw_tbl.filter goodWord := mI_tables_1_5 (List.mem_of_getElem? (i := 36) rfl) rfl
