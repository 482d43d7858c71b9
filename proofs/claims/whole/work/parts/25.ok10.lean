/-! Checks of methods. -/
theorem mD_104_0 : ck_t prog_8_method_11_code mT_104_0 = true := by decide +kernel
theorem mD_104 : ck_t prog_8_method_11_code mT_104 = true := mD_104_0
theorem mO_104 : ck_m lw_tbl mi_cl (mi_ev []) mi_Gs mi_fr mi_lo 104 mG_104 mC_104 = true := by decide +kernel
theorem mD_105_0 : ck_t prog_8_method_12_code mT_105_0 = true := by decide +kernel
theorem mD_105_1 : ck_t prog_8_method_12_code mT_105_1 = true := by decide +kernel
theorem mD_105 : ck_t prog_8_method_12_code mT_105 = true := ck_t_app mD_105_0 mD_105_1
theorem mO_105 : ck_m lw_tbl mi_cl (mi_ev []) mi_Gs mi_fr mi_lo 105 mG_105 mC_105 = true := by decide +kernel
theorem mD_106_0 : ck_t prog_8_method_13_code mT_106_0 = true := by decide +kernel
theorem mD_106 : ck_t prog_8_method_13_code mT_106 = true := mD_106_0
theorem mO_106 : ck_m lw_tbl mi_cl (mi_ev []) mi_Gs mi_fr mi_lo 106 mG_106 mC_106 = true := by decide +kernel
theorem mD_107_0 : ck_t prog_9_method_2_code mT_107_0 = true := by decide +kernel
theorem mD_107 : ck_t prog_9_method_2_code mT_107 = true := mD_107_0
theorem mO_107 : ck_m lw_tbl mi_cl (mi_ev []) mi_Gs mi_fr mi_lo 107 mG_107 mC_107 = true := by decide +kernel
theorem mD_108_0 : ck_t prog_9_method_1_code mT_108_0 = true := by decide +kernel
theorem mD_108 : ck_t prog_9_method_1_code mT_108 = true := mD_108_0
theorem mO_108 : ck_m lw_tbl mi_cl (mi_ev []) mi_Gs mi_fr mi_lo 108 mG_108 mC_108 = true := by decide +kernel
theorem mD_109_0 : ck_t prog_10_method_1_code mT_109_0 = true := by decide +kernel
theorem mD_109 : ck_t prog_10_method_1_code mT_109 = true := mD_109_0
theorem mO_109 : ck_m lw_tbl mi_cl (mi_ev []) mi_Gs mi_fr mi_lo 109 mG_109 mC_109 = true := by decide +kernel
theorem mD_110_0 : ck_t prog_11_method_1_code mT_110_0 = true := by decide +kernel
theorem mD_110 : ck_t prog_11_method_1_code mT_110 = true := mD_110_0
theorem mO_110 : ck_m lw_tbl mi_cl (mi_ev []) mi_Gs mi_fr mi_lo 110 mG_110 mC_110 = true := by decide +kernel
