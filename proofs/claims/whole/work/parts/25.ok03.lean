/-! Checks of methods. -/
theorem mD_28_0 : ck_t prog_1_method_9_code mT_28_0 = true := by decide +kernel
theorem mD_28 : ck_t prog_1_method_9_code mT_28 = true := mD_28_0
theorem mO_28 : ck_m lw_tbl mi_cl (mi_ev []) mi_Gs mi_fr mi_lo 28 mG_28 mC_28 = true := by decide +kernel
theorem mD_29_0 : ck_t prog_1_method_10_code mT_29_0 = true := by decide +kernel
theorem mD_29 : ck_t prog_1_method_10_code mT_29 = true := mD_29_0
theorem mO_29 : ck_m lw_tbl mi_cl (mi_ev []) mi_Gs mi_fr mi_lo 29 mG_29 mC_29 = true := by decide +kernel
theorem mD_30_0 : ck_t prog_1_method_19_code mT_30_0 = true := by decide +kernel
theorem mD_30 : ck_t prog_1_method_19_code mT_30 = true := mD_30_0
theorem mO_30 : ck_m lw_tbl mi_cl (mi_ev []) mi_Gs mi_fr mi_lo 30 mG_30 mC_30 = true := by decide +kernel
theorem mD_31_0 : ck_t prog_1_method_13_code mT_31_0 = true := by decide +kernel
theorem mD_31 : ck_t prog_1_method_13_code mT_31 = true := mD_31_0
theorem mO_31 : ck_m lw_tbl mi_cl (mi_ev []) mi_Gs mi_fr mi_lo 31 mG_31 mC_31 = true := by decide +kernel
theorem mD_32_0 : ck_t prog_1_method_6_code mT_32_0 = true := by decide +kernel
theorem mD_32 : ck_t prog_1_method_6_code mT_32 = true := mD_32_0
theorem mO_32 : ck_m lw_tbl mi_cl (mi_ev []) mi_Gs mi_fr mi_lo 32 mG_32 mC_32 = true := by decide +kernel
theorem mD_33_0 : ck_t prog_1_method_2_code mT_33_0 = true := by decide +kernel
theorem mD_33 : ck_t prog_1_method_2_code mT_33 = true := mD_33_0
theorem mO_33 : ck_m lw_tbl mi_cl (mi_ev []) mi_Gs mi_fr mi_lo 33 mG_33 mC_33 = true := by decide +kernel
theorem mD_34_0 : ck_t prog_1_method_3_code mT_34_0 = true := by decide +kernel
theorem mD_34 : ck_t prog_1_method_3_code mT_34 = true := mD_34_0
theorem mO_34 : ck_m lw_tbl mi_cl (mi_ev []) mi_Gs mi_fr mi_lo 34 mG_34 mC_34 = true := by decide +kernel
theorem mD_35_0 : ck_t prog_1_method_17_code mT_35_0 = true := by decide +kernel
theorem mD_35 : ck_t prog_1_method_17_code mT_35 = true := mD_35_0
theorem mO_35 : ck_m lw_tbl mi_cl (mi_ev []) mi_Gs mi_fr mi_lo 35 mG_35 mC_35 = true := by decide +kernel
theorem mD_36_0 : ck_t prog_1_method_1_code mT_36_0 = true := by decide +kernel
theorem mD_36 : ck_t prog_1_method_1_code mT_36 = true := mD_36_0
theorem mO_36 : ck_m lw_tbl mi_cl (mi_ev []) mi_Gs mi_fr mi_lo 36 mG_36 mC_36 = true := by decide +kernel
theorem mD_37_0 : ck_t prog_1_method_21_code mT_37_0 = true := by decide +kernel
theorem mD_37 : ck_t prog_1_method_21_code mT_37 = true := mD_37_0
theorem mO_37 : ck_m lw_tbl mi_cl (mi_ev []) mi_Gs mi_fr mi_lo 37 mG_37 mC_37 = true := by decide +kernel
theorem mD_38_0 : ck_t prog_1_method_8_code mT_38_0 = true := by decide +kernel
theorem mD_38 : ck_t prog_1_method_8_code mT_38 = true := mD_38_0
theorem mO_38 : ck_m lw_tbl mi_cl (mi_ev []) mi_Gs mi_fr mi_lo 38 mG_38 mC_38 = true := by decide +kernel
theorem mD_39_0 : ck_t prog_1_method_15_code mT_39_0 = true := by decide +kernel
theorem mD_39 : ck_t prog_1_method_15_code mT_39 = true := mD_39_0
theorem mO_39 : ck_m lw_tbl mi_cl (mi_ev []) mi_Gs mi_fr mi_lo 39 mG_39 mC_39 = true := by decide +kernel
