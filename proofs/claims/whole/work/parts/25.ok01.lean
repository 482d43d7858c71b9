/-! Checks of methods. -/
theorem mD_7_0 : ck_t prog_25_method_11_code mT_7_0 = true := by decide +kernel
theorem mD_7 : ck_t prog_25_method_11_code mT_7 = true := mD_7_0
theorem mO_7 : ck_m lw_tbl mi_cl (mi_ev []) mi_Gs mi_fr mi_lo 7 mG_7 mC_7 = true := by decide +kernel
theorem mD_8_0 : ck_t prog_24_method_103_code mT_8_0 = true := by decide +kernel
theorem mD_8 : ck_t prog_24_method_103_code mT_8 = true := mD_8_0
theorem mO_8 : ck_m lw_tbl mi_cl (mi_ev []) mi_Gs mi_fr mi_lo 8 mG_8 mC_8 = true := by decide +kernel
theorem mD_9_0 : ck_t prog_2_method_8_code mT_9_0 = true := by decide +kernel
theorem mD_9 : ck_t prog_2_method_8_code mT_9 = true := mD_9_0
theorem mO_9 : ck_m lw_tbl mi_cl (mi_ev []) mi_Gs mi_fr mi_lo 9 mG_9 mC_9 = true := by decide +kernel
theorem mD_10_0 : ck_t prog_2_method_1_code mT_10_0 = true := by decide +kernel
theorem mD_10 : ck_t prog_2_method_1_code mT_10 = true := mD_10_0
theorem mO_10 : ck_m lw_tbl mi_cl (mi_ev []) mi_Gs mi_fr mi_lo 10 mG_10 mC_10 = true := by decide +kernel
theorem mD_11_0 : ck_t prog_2_method_11_code mT_11_0 = true := by decide +kernel
theorem mD_11 : ck_t prog_2_method_11_code mT_11 = true := mD_11_0
theorem mO_11 : ck_m lw_tbl mi_cl (mi_ev []) mi_Gs mi_fr mi_lo 11 mG_11 mC_11 = true := by decide +kernel
theorem mD_12_0 : ck_t prog_12_method_6_code mT_12_0 = true := by decide +kernel
theorem mD_12 : ck_t prog_12_method_6_code mT_12 = true := mD_12_0
theorem mO_12 : ck_m lw_tbl mi_cl (mi_ev []) mi_Gs mi_fr mi_lo 12 mG_12 mC_12 = true := by decide +kernel
theorem mD_13_0 : ck_t prog_12_method_5_code mT_13_0 = true := by decide +kernel
theorem mD_13_1 : ck_t prog_12_method_5_code mT_13_1 = true := by decide +kernel
theorem mD_13_2 : ck_t prog_12_method_5_code mT_13_2 = true := by decide +kernel
theorem mD_13 : ck_t prog_12_method_5_code mT_13 = true := ck_t_app mD_13_0 (ck_t_app mD_13_1 mD_13_2)
theorem mO_13 : ck_m lw_tbl mi_cl (mi_ev []) mi_Gs mi_fr mi_lo 13 mG_13 mC_13 = true := by decide +kernel
theorem mD_14_0 : ck_t prog_12_method_4_code mT_14_0 = true := by decide +kernel
theorem mD_14 : ck_t prog_12_method_4_code mT_14 = true := mD_14_0
theorem mO_14 : ck_m lw_tbl mi_cl (mi_ev []) mi_Gs mi_fr mi_lo 14 mG_14 mC_14 = true := by decide +kernel
theorem mD_15_0 : ck_t prog_12_method_18_code mT_15_0 = true := by decide +kernel
theorem mD_15 : ck_t prog_12_method_18_code mT_15 = true := mD_15_0
theorem mO_15 : ck_m lw_tbl mi_cl (mi_ev []) mi_Gs mi_fr mi_lo 15 mG_15 mC_15 = true := by decide +kernel
theorem mD_16_0 : ck_t prog_12_method_9_code mT_16_0 = true := by decide +kernel
theorem mD_16 : ck_t prog_12_method_9_code mT_16 = true := mD_16_0
theorem mO_16 : ck_m lw_tbl mi_cl (mi_ev []) mi_Gs mi_fr mi_lo 16 mG_16 mC_16 = true := by decide +kernel
theorem mD_17_0 : ck_t prog_12_method_1_code mT_17_0 = true := by decide +kernel
theorem mD_17_1 : ck_t prog_12_method_1_code mT_17_1 = true := by decide +kernel
theorem mD_17_2 : ck_t prog_12_method_1_code mT_17_2 = true := by decide +kernel
theorem mD_17 : ck_t prog_12_method_1_code mT_17 = true := ck_t_app mD_17_0 (ck_t_app mD_17_1 mD_17_2)
theorem mO_17 : ck_m lw_tbl mi_cl (mi_ev []) mi_Gs mi_fr mi_lo 17 mG_17 mC_17 = true := by decide +kernel
