/-! Checks of methods. -/
theorem mD_18_0 : ck_t prog_12_method_13_code mT_18_0 = true := by decide +kernel
theorem mD_18 : ck_t prog_12_method_13_code mT_18 = true := mD_18_0
theorem mO_18 : ck_m lw_tbl mi_cl (mi_ev []) mi_Gs mi_fr mi_lo 18 mG_18 mC_18 = true := by decide +kernel
theorem mD_19_0 : ck_t prog_12_method_8_code mT_19_0 = true := by decide +kernel
theorem mD_19 : ck_t prog_12_method_8_code mT_19 = true := mD_19_0
theorem mO_19 : ck_m lw_tbl mi_cl (mi_ev []) mi_Gs mi_fr mi_lo 19 mG_19 mC_19 = true := by decide +kernel
theorem mD_20_0 : ck_t prog_12_method_7_code mT_20_0 = true := by decide +kernel
theorem mD_20_1 : ck_t prog_12_method_7_code mT_20_1 = true := by decide +kernel
theorem mD_20_2 : ck_t prog_12_method_7_code mT_20_2 = true := by decide +kernel
theorem mD_20 : ck_t prog_12_method_7_code mT_20 = true := ck_t_app mD_20_0 (ck_t_app mD_20_1 mD_20_2)
theorem mO_20 : ck_m lw_tbl mi_cl (mi_ev []) mi_Gs mi_fr mi_lo 20 mG_20 mC_20 = true := by decide +kernel
theorem mD_21_0 : ck_t prog_12_method_12_code mT_21_0 = true := by decide +kernel
theorem mD_21 : ck_t prog_12_method_12_code mT_21 = true := mD_21_0
theorem mO_21 : ck_m lw_tbl mi_cl (mi_ev []) mi_Gs mi_fr mi_lo 21 mG_21 mC_21 = true := by decide +kernel
theorem mD_22_0 : ck_t prog_12_method_2_code mT_22_0 = true := by decide +kernel
theorem mD_22 : ck_t prog_12_method_2_code mT_22 = true := mD_22_0
theorem mO_22 : ck_m lw_tbl mi_cl (mi_ev []) mi_Gs mi_fr mi_lo 22 mG_22 mC_22 = true := by decide +kernel
theorem mD_23_0 : ck_t prog_12_method_3_code mT_23_0 = true := by decide +kernel
theorem mD_23 : ck_t prog_12_method_3_code mT_23 = true := mD_23_0
theorem mO_23 : ck_m lw_tbl mi_cl (mi_ev []) mi_Gs mi_fr mi_lo 23 mG_23 mC_23 = true := by decide +kernel
theorem mD_24_0 : ck_t prog_12_method_11_code mT_24_0 = true := by decide +kernel
theorem mD_24_1 : ck_t prog_12_method_11_code mT_24_1 = true := by decide +kernel
theorem mD_24_2 : ck_t prog_12_method_11_code mT_24_2 = true := by decide +kernel
theorem mD_24_3 : ck_t prog_12_method_11_code mT_24_3 = true := by decide +kernel
theorem mD_24 : ck_t prog_12_method_11_code mT_24 = true := ck_t_app mD_24_0 (ck_t_app mD_24_1 (ck_t_app mD_24_2 mD_24_3))
theorem mO_24 : ck_m lw_tbl mi_cl (mi_ev []) mi_Gs mi_fr mi_lo 24 mG_24 mC_24 = true := by decide +kernel
theorem mD_25_0 : ck_t prog_12_method_10_code mT_25_0 = true := by decide +kernel
theorem mD_25 : ck_t prog_12_method_10_code mT_25 = true := mD_25_0
theorem mO_25 : ck_m lw_tbl mi_cl (mi_ev []) mi_Gs mi_fr mi_lo 25 mG_25 mC_25 = true := by decide +kernel
theorem mD_26_0 : ck_t prog_1_method_4_code mT_26_0 = true := by decide +kernel
theorem mD_26 : ck_t prog_1_method_4_code mT_26 = true := mD_26_0
theorem mO_26 : ck_m lw_tbl mi_cl (mi_ev []) mi_Gs mi_fr mi_lo 26 mG_26 mC_26 = true := by decide +kernel
theorem mD_27_0 : ck_t prog_1_method_11_code mT_27_0 = true := by decide +kernel
theorem mD_27 : ck_t prog_1_method_11_code mT_27 = true := mD_27_0
theorem mO_27 : ck_m lw_tbl mi_cl (mi_ev []) mi_Gs mi_fr mi_lo 27 mG_27 mC_27 = true := by decide +kernel
