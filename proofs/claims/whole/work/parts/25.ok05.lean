/-! Checks of methods. -/
theorem mD_51_0 : ck_t prog_1_method_25_code mT_51_0 = true := by decide +kernel
theorem mD_51 : ck_t prog_1_method_25_code mT_51 = true := mD_51_0
theorem mO_51 : ck_m lw_tbl mi_cl (mi_ev []) mi_Gs mi_fr mi_lo 51 mG_51 mC_51 = true := by decide +kernel
theorem mD_52_0 : ck_t prog_1_method_26_code mT_52_0 = true := by decide +kernel
theorem mD_52 : ck_t prog_1_method_26_code mT_52 = true := mD_52_0
theorem mO_52 : ck_m lw_tbl mi_cl (mi_ev []) mi_Gs mi_fr mi_lo 52 mG_52 mC_52 = true := by decide +kernel
theorem mD_53_0 : ck_t prog_15_method_1_code mT_53_0 = true := by decide +kernel
theorem mD_53_1 : ck_t prog_15_method_1_code mT_53_1 = true := by decide +kernel
theorem mD_53_2 : ck_t prog_15_method_1_code mT_53_2 = true := by decide +kernel
theorem mD_53_3 : ck_t prog_15_method_1_code mT_53_3 = true := by decide +kernel
theorem mD_53_4 : ck_t prog_15_method_1_code mT_53_4 = true := by decide +kernel
theorem mD_53 : ck_t prog_15_method_1_code mT_53 = true := ck_t_app mD_53_0 (ck_t_app mD_53_1 (ck_t_app mD_53_2 (ck_t_app mD_53_3 mD_53_4)))
theorem mO_53 : ck_m lw_tbl mi_cl (mi_ev []) mi_Gs mi_fr mi_lo 53 mG_53 mC_53 = true := by decide +kernel
theorem mD_54_0 : ck_t prog_14_method_25_code mT_54_0 = true := by decide +kernel
theorem mD_54 : ck_t prog_14_method_25_code mT_54 = true := mD_54_0
theorem mO_54 : ck_m lw_tbl mi_cl (mi_ev []) mi_Gs mi_fr mi_lo 54 mG_54 mC_54 = true := by decide +kernel
theorem mD_55_0 : ck_t prog_14_method_33_code mT_55_0 = true := by decide +kernel
theorem mD_55 : ck_t prog_14_method_33_code mT_55 = true := mD_55_0
theorem mO_55 : ck_m lw_tbl mi_cl (mi_ev []) mi_Gs mi_fr mi_lo 55 mG_55 mC_55 = true := by decide +kernel
theorem mD_56_0 : ck_t prog_14_method_5_code mT_56_0 = true := by decide +kernel
theorem mD_56_1 : ck_t prog_14_method_5_code mT_56_1 = true := by decide +kernel
theorem mD_56_2 : ck_t prog_14_method_5_code mT_56_2 = true := by decide +kernel
theorem mD_56_3 : ck_t prog_14_method_5_code mT_56_3 = true := by decide +kernel
theorem mD_56 : ck_t prog_14_method_5_code mT_56 = true := ck_t_app mD_56_0 (ck_t_app mD_56_1 (ck_t_app mD_56_2 mD_56_3))
theorem mO_56 : ck_m lw_tbl mi_cl (mi_ev []) mi_Gs mi_fr mi_lo 56 mG_56 mC_56 = true := by decide +kernel
theorem mD_57_0 : ck_t prog_14_method_4_code mT_57_0 = true := by decide +kernel
theorem mD_57 : ck_t prog_14_method_4_code mT_57 = true := mD_57_0
theorem mO_57 : ck_m lw_tbl mi_cl (mi_ev []) mi_Gs mi_fr mi_lo 57 mG_57 mC_57 = true := by decide +kernel
theorem mD_58_0 : ck_t prog_14_method_128_code mT_58_0 = true := by decide +kernel
theorem mD_58 : ck_t prog_14_method_128_code mT_58 = true := mD_58_0
theorem mO_58 : ck_m lw_tbl mi_cl (mi_ev []) mi_Gs mi_fr mi_lo 58 mG_58 mC_58 = true := by decide +kernel
theorem mD_59_0 : ck_t prog_14_method_126_code mT_59_0 = true := by decide +kernel
theorem mD_59 : ck_t prog_14_method_126_code mT_59 = true := mD_59_0
theorem mO_59 : ck_m lw_tbl mi_cl (mi_ev []) mi_Gs mi_fr mi_lo 59 mG_59 mC_59 = true := by decide +kernel
