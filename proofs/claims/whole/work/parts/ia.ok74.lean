/-! Checks of methods. -/
theorem mD_412_0 : ck_t prog_9_method_4_code mT_412_0 = true := by decide +kernel
theorem mD_412 : ck_t prog_9_method_4_code mT_412 = true := mD_412_0
theorem mO_412 : mC_412.all (ck_c lw_tbl (mi_ev []) mi_Gs mi_mq mi_fr mi_lo 412 "SafeCode$States") = true := by decide +kernel
theorem mQ_412 : ck_q lw_tbl mi_cl mG_412 0 1 7 [262, 1451, 1452] = true := by decide +kernel
set_option maxRecDepth 100000 in
theorem mW_412 : Cond.code ⟨"SafeCode$States", "wake", "(I)V"⟩ prog_9_method_4_code 2 (none) ∈ lw_tbl.filter goodWord := mI_tables_1_6 (List.mem_of_getElem? (i := 6) rfl) rfl
theorem mD_413_0 : ck_t prog_10_method_6_code mT_413_0 = true := by decide +kernel
theorem mD_413 : ck_t prog_10_method_6_code mT_413 = true := mD_413_0
theorem mO_413 : mC_413.all (ck_c lw_tbl (mi_ev []) mi_Gs mi_mq mi_fr mi_lo 413 "SafeCode$Store") = true := by decide +kernel
theorem mQ_413 : ck_q lw_tbl mi_cl mG_413 0 3 8 [263, 1697, 1698] = true := by decide +kernel
set_option maxRecDepth 100000 in
theorem mW_413 : Cond.code ⟨"SafeCode$Store", "addElement", "(IJZ)V"⟩ prog_10_method_6_code 7 (none) ∈ lw_tbl.filter goodWord := mI_tables_1_7 (List.mem_of_getElem? (i := 12) rfl) rfl
theorem mD_414_0 : ck_t prog_10_method_8_code mT_414_0 = true := by decide +kernel
theorem mD_414 : ck_t prog_10_method_8_code mT_414 = true := mD_414_0
theorem mO_414 : mC_414.all (ck_c lw_tbl (mi_ev []) mi_Gs mi_mq mi_fr mi_lo 414 "SafeCode$Store") = true := by decide +kernel
theorem mQ_414 : ck_q lw_tbl mi_cl mG_414 0 3 8 [263, 1750, 1751] = true := by decide +kernel
set_option maxRecDepth 100000 in
theorem mW_414 : Cond.code ⟨"SafeCode$Store", "addEnd", "(IJZ)V"⟩ prog_10_method_8_code 7 (none) ∈ lw_tbl.filter goodWord := mI_tables_1_7 (List.mem_of_getElem? (i := 65) rfl) rfl
theorem mD_415_0 : ck_t prog_10_method_5_code mT_415_0 = true := by decide +kernel
theorem mD_415 : ck_t prog_10_method_5_code mT_415 = true := mD_415_0
theorem mO_415 : mC_415.all (ck_c lw_tbl (mi_ev []) mi_Gs mi_mq mi_fr mi_lo 415 "SafeCode$Store") = true := by decide +kernel
theorem mQ_415 : ck_q lw_tbl mi_cl mG_415 0 4 8 [263, 1711, 1712] = true := by decide +kernel
set_option maxRecDepth 100000 in
theorem mW_415 : Cond.code ⟨"SafeCode$Store", "addField", "(IIJZ)V"⟩ prog_10_method_5_code 9 (none) ∈ lw_tbl.filter goodWord := mI_tables_1_7 (List.mem_of_getElem? (i := 26) rfl) rfl
theorem mD_416_0 : ck_t prog_10_method_7_code mT_416_0 = true := by decide +kernel
theorem mD_416 : ck_t prog_10_method_7_code mT_416 = true := mD_416_0
theorem mO_416 : mC_416.all (ck_c lw_tbl (mi_ev []) mi_Gs mi_mq mi_fr mi_lo 416 "SafeCode$Store") = true := by decide +kernel
theorem mQ_416 : ck_q lw_tbl mi_cl mG_416 0 2 8 [263, 1721, 1722] = true := by decide +kernel
set_option maxRecDepth 100000 in
theorem mW_416 : Cond.code ⟨"SafeCode$Store", "addLengths", "(IJ)V"⟩ prog_10_method_7_code 6 (none) ∈ lw_tbl.filter goodWord := mI_tables_1_7 (List.mem_of_getElem? (i := 36) rfl) rfl
theorem mD_417_0 : ck_t prog_10_method_9_code mT_417_0 = true := by decide +kernel
theorem mD_417 : ck_t prog_10_method_9_code mT_417 = true := mD_417_0
theorem mO_417 : mC_417.all (ck_c lw_tbl (mi_ev []) mi_Gs mi_mq mi_fr mi_lo 417 "SafeCode$Store") = true := by decide +kernel
theorem mQ_417 : ck_q lw_tbl mi_cl mG_417 0 2 8 [263, 1783, 1784] = true := by decide +kernel
set_option maxRecDepth 100000 in
theorem mW_417 : Cond.code ⟨"SafeCode$Store", "addThrown", "(IJ)V"⟩ prog_10_method_9_code 4 (none) ∈ lw_tbl.filter goodWord := mI_tables_1_7 (List.mem_of_getElem? (i := 98) rfl) rfl
