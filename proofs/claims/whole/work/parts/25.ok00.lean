/-! Checks of methods. -/
theorem mD_0_0 : ck_t code mT_0_0 = true := by decide +kernel
theorem mD_0_1 : ck_t code mT_0_1 = true := by decide +kernel
theorem mD_0_2 : ck_t code mT_0_2 = true := by decide +kernel
theorem mD_0_3 : ck_t code mT_0_3 = true := by decide +kernel
theorem mD_0_4 : ck_t code mT_0_4 = true := by decide +kernel
theorem mD_0_5 : ck_t code mT_0_5 = true := by decide +kernel
theorem mD_0_6 : ck_t code mT_0_6 = true := by decide +kernel
theorem mD_0_7 : ck_t code mT_0_7 = true := by decide +kernel
theorem mD_0_8 : ck_t code mT_0_8 = true := by decide +kernel
theorem mD_0_9 : ck_t code mT_0_9 = true := by decide +kernel
theorem mD_0_10 : ck_t code mT_0_10 = true := by decide +kernel
theorem mD_0 : ck_t code mT_0 = true := ck_t_app mD_0_0 (ck_t_app mD_0_1 (ck_t_app mD_0_2 (ck_t_app mD_0_3 (ck_t_app mD_0_4 (ck_t_app mD_0_5 (ck_t_app mD_0_6 (ck_t_app mD_0_7 (ck_t_app mD_0_8 (ck_t_app mD_0_9 mD_0_10)))))))))
theorem mO_0 : ck_m lw_tbl mi_cl (mi_ev []) mi_Gs mi_fr mi_lo 0 mG_0 mC_0 = true := by decide +kernel
theorem mD_1_0 : ck_t prog_20_method_56_code mT_1_0 = true := by decide +kernel
theorem mD_1 : ck_t prog_20_method_56_code mT_1 = true := mD_1_0
theorem mO_1 : ck_m lw_tbl mi_cl (mi_ev []) mi_Gs mi_fr mi_lo 1 mG_1 mC_1 = true := by decide +kernel
theorem mD_2_0 : ck_t prog_20_method_155_code mT_2_0 = true := by decide +kernel
theorem mD_2 : ck_t prog_20_method_155_code mT_2 = true := mD_2_0
theorem mO_2 : ck_m lw_tbl mi_cl (mi_ev []) mi_Gs mi_fr mi_lo 2 mG_2 mC_2 = true := by decide +kernel
theorem mD_3_0 : ck_t prog_20_method_152_code mT_3_0 = true := by decide +kernel
theorem mD_3 : ck_t prog_20_method_152_code mT_3 = true := mD_3_0
theorem mO_3 : ck_m lw_tbl mi_cl (mi_ev []) mi_Gs mi_fr mi_lo 3 mG_3 mC_3 = true := by decide +kernel
theorem mD_4_0 : ck_t prog_20_method_154_code mT_4_0 = true := by decide +kernel
theorem mD_4 : ck_t prog_20_method_154_code mT_4 = true := mD_4_0
theorem mO_4 : ck_m lw_tbl mi_cl (mi_ev []) mi_Gs mi_fr mi_lo 4 mG_4 mC_4 = true := by decide +kernel
theorem mD_5_0 : ck_t prog_20_method_54_code mT_5_0 = true := by decide +kernel
theorem mD_5 : ck_t prog_20_method_54_code mT_5 = true := mD_5_0
theorem mO_5 : ck_m lw_tbl mi_cl (mi_ev []) mi_Gs mi_fr mi_lo 5 mG_5 mC_5 = true := by decide +kernel
theorem mD_6_0 : ck_t prog_21_method_2_code mT_6_0 = true := by decide +kernel
theorem mD_6 : ck_t prog_21_method_2_code mT_6 = true := mD_6_0
theorem mO_6 : ck_m lw_tbl mi_cl (mi_ev []) mi_Gs mi_fr mi_lo 6 mG_6 mC_6 = true := by decide +kernel
