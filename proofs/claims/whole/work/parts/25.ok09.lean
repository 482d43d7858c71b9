/-! Checks of methods. -/
theorem mD_92_0 : ck_t prog_3_method_1_code mT_92_0 = true := by decide +kernel
theorem mD_92 : ck_t prog_3_method_1_code mT_92 = true := mD_92_0
theorem mO_92 : ck_m lw_tbl mi_cl (mi_ev []) mi_Gs mi_fr mi_lo 92 mG_92 mC_92 = true := by decide +kernel
theorem mD_93_0 : ck_t prog_4_method_1_code mT_93_0 = true := by decide +kernel
theorem mD_93 : ck_t prog_4_method_1_code mT_93 = true := mD_93_0
theorem mO_93 : ck_m lw_tbl mi_cl (mi_ev []) mi_Gs mi_fr mi_lo 93 mG_93 mC_93 = true := by decide +kernel
theorem mD_94_0 : ck_t prog_5_method_2_code mT_94_0 = true := by decide +kernel
theorem mD_94 : ck_t prog_5_method_2_code mT_94 = true := mD_94_0
theorem mO_94 : ck_m lw_tbl mi_cl (mi_ev []) mi_Gs mi_fr mi_lo 94 mG_94 mC_94 = true := by decide +kernel
theorem mD_95_0 : ck_t prog_5_method_1_code mT_95_0 = true := by decide +kernel
theorem mD_95 : ck_t prog_5_method_1_code mT_95 = true := mD_95_0
theorem mO_95 : ck_m lw_tbl mi_cl (mi_ev []) mi_Gs mi_fr mi_lo 95 mG_95 mC_95 = true := by decide +kernel
theorem mD_96_0 : ck_t prog_6_method_1_code mT_96_0 = true := by decide +kernel
theorem mD_96 : ck_t prog_6_method_1_code mT_96 = true := mD_96_0
theorem mO_96 : ck_m lw_tbl mi_cl (mi_ev []) mi_Gs mi_fr mi_lo 96 mG_96 mC_96 = true := by decide +kernel
theorem mD_97_0 : ck_t prog_7_method_9_code mT_97_0 = true := by decide +kernel
theorem mD_97 : ck_t prog_7_method_9_code mT_97 = true := mD_97_0
theorem mO_97 : ck_m lw_tbl mi_cl (mi_ev []) mi_Gs mi_fr mi_lo 97 mG_97 mC_97 = true := by decide +kernel
theorem mD_98_0 : ck_t prog_7_method_11_code mT_98_0 = true := by decide +kernel
theorem mD_98 : ck_t prog_7_method_11_code mT_98 = true := mD_98_0
theorem mO_98 : ck_m lw_tbl mi_cl (mi_ev []) mi_Gs mi_fr mi_lo 98 mG_98 mC_98 = true := by decide +kernel
theorem mD_99_0 : ck_t prog_7_method_10_code mT_99_0 = true := by decide +kernel
theorem mD_99 : ck_t prog_7_method_10_code mT_99 = true := mD_99_0
theorem mO_99 : ck_m lw_tbl mi_cl (mi_ev []) mi_Gs mi_fr mi_lo 99 mG_99 mC_99 = true := by decide +kernel
theorem mD_100_0 : ck_t prog_7_method_1_code mT_100_0 = true := by decide +kernel
theorem mD_100 : ck_t prog_7_method_1_code mT_100 = true := mD_100_0
theorem mO_100 : ck_m lw_tbl mi_cl (mi_ev []) mi_Gs mi_fr mi_lo 100 mG_100 mC_100 = true := by decide +kernel
theorem mD_101_0 : ck_t prog_7_method_12_code mT_101_0 = true := by decide +kernel
theorem mD_101 : ck_t prog_7_method_12_code mT_101 = true := mD_101_0
theorem mO_101 : ck_m lw_tbl mi_cl (mi_ev []) mi_Gs mi_fr mi_lo 101 mG_101 mC_101 = true := by decide +kernel
theorem mD_102_0 : ck_t prog_8_method_2_code mT_102_0 = true := by decide +kernel
theorem mD_102 : ck_t prog_8_method_2_code mT_102 = true := mD_102_0
theorem mO_102 : ck_m lw_tbl mi_cl (mi_ev []) mi_Gs mi_fr mi_lo 102 mG_102 mC_102 = true := by decide +kernel
theorem mD_103_0 : ck_t prog_8_method_1_code mT_103_0 = true := by decide +kernel
theorem mD_103 : ck_t prog_8_method_1_code mT_103 = true := mD_103_0
theorem mO_103 : ck_m lw_tbl mi_cl (mi_ev []) mi_Gs mi_fr mi_lo 103 mG_103 mC_103 = true := by decide +kernel
