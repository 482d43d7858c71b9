/-! Checks of methods. -/
theorem mD_40_0 : ck_t prog_1_method_20_code mT_40_0 = true := by decide +kernel
theorem mD_40 : ck_t prog_1_method_20_code mT_40 = true := mD_40_0
theorem mO_40 : ck_m lw_tbl mi_cl (mi_ev []) mi_Gs mi_fr mi_lo 40 mG_40 mC_40 = true := by decide +kernel
theorem mD_41_0 : ck_t prog_1_method_5_code mT_41_0 = true := by decide +kernel
theorem mD_41_1 : ck_t prog_1_method_5_code mT_41_1 = true := by decide +kernel
theorem mD_41_2 : ck_t prog_1_method_5_code mT_41_2 = true := by decide +kernel
theorem mD_41 : ck_t prog_1_method_5_code mT_41 = true := ck_t_app mD_41_0 (ck_t_app mD_41_1 mD_41_2)
theorem mO_41 : ck_m lw_tbl mi_cl (mi_ev []) mi_Gs mi_fr mi_lo 41 mG_41 mC_41 = true := by decide +kernel
theorem mD_42_0 : ck_t prog_1_method_16_code mT_42_0 = true := by decide +kernel
theorem mD_42 : ck_t prog_1_method_16_code mT_42 = true := mD_42_0
theorem mO_42 : ck_m lw_tbl mi_cl (mi_ev []) mi_Gs mi_fr mi_lo 42 mG_42 mC_42 = true := by decide +kernel
theorem mD_43_0 : ck_t prog_1_method_27_code mT_43_0 = true := by decide +kernel
theorem mD_43 : ck_t prog_1_method_27_code mT_43 = true := mD_43_0
theorem mO_43 : ck_m lw_tbl mi_cl (mi_ev []) mi_Gs mi_fr mi_lo 43 mG_43 mC_43 = true := by decide +kernel
theorem mD_44_0 : ck_t prog_1_method_24_code mT_44_0 = true := by decide +kernel
theorem mD_44 : ck_t prog_1_method_24_code mT_44 = true := mD_44_0
theorem mO_44 : ck_m lw_tbl mi_cl (mi_ev []) mi_Gs mi_fr mi_lo 44 mG_44 mC_44 = true := by decide +kernel
theorem mD_45_0 : ck_t prog_1_method_22_code mT_45_0 = true := by decide +kernel
theorem mD_45 : ck_t prog_1_method_22_code mT_45 = true := mD_45_0
theorem mO_45 : ck_m lw_tbl mi_cl (mi_ev []) mi_Gs mi_fr mi_lo 45 mG_45 mC_45 = true := by decide +kernel
theorem mD_46_0 : ck_t prog_1_method_18_code mT_46_0 = true := by decide +kernel
theorem mD_46 : ck_t prog_1_method_18_code mT_46 = true := mD_46_0
theorem mO_46 : ck_m lw_tbl mi_cl (mi_ev []) mi_Gs mi_fr mi_lo 46 mG_46 mC_46 = true := by decide +kernel
theorem mD_47_0 : ck_t prog_1_method_7_code mT_47_0 = true := by decide +kernel
theorem mD_47 : ck_t prog_1_method_7_code mT_47 = true := mD_47_0
theorem mO_47 : ck_m lw_tbl mi_cl (mi_ev []) mi_Gs mi_fr mi_lo 47 mG_47 mC_47 = true := by decide +kernel
theorem mD_48_0 : ck_t prog_1_method_12_code mT_48_0 = true := by decide +kernel
theorem mD_48 : ck_t prog_1_method_12_code mT_48 = true := mD_48_0
theorem mO_48 : ck_m lw_tbl mi_cl (mi_ev []) mi_Gs mi_fr mi_lo 48 mG_48 mC_48 = true := by decide +kernel
theorem mD_49_0 : ck_t prog_1_method_23_code mT_49_0 = true := by decide +kernel
theorem mD_49 : ck_t prog_1_method_23_code mT_49 = true := mD_49_0
theorem mO_49 : ck_m lw_tbl mi_cl (mi_ev []) mi_Gs mi_fr mi_lo 49 mG_49 mC_49 = true := by decide +kernel
theorem mD_50_0 : ck_t prog_1_method_28_code mT_50_0 = true := by decide +kernel
theorem mD_50 : ck_t prog_1_method_28_code mT_50 = true := mD_50_0
theorem mO_50 : ck_m lw_tbl mi_cl (mi_ev []) mi_Gs mi_fr mi_lo 50 mG_50 mC_50 = true := by decide +kernel
