/-! Checks of methods. -/
theorem mD_60_0 : ck_t prog_14_method_127_code mT_60_0 = true := by decide +kernel
theorem mD_60 : ck_t prog_14_method_127_code mT_60 = true := mD_60_0
theorem mO_60 : ck_m lw_tbl mi_cl (mi_ev []) mi_Gs mi_fr mi_lo 60 mG_60 mC_60 = true := by decide +kernel
theorem mD_61_0 : ck_t prog_14_method_134_code mT_61_0 = true := by decide +kernel
theorem mD_61 : ck_t prog_14_method_134_code mT_61 = true := mD_61_0
theorem mO_61 : ck_m lw_tbl mi_cl (mi_ev []) mi_Gs mi_fr mi_lo 61 mG_61 mC_61 = true := by decide +kernel
theorem mD_62_0 : ck_t prog_14_method_121_code mT_62_0 = true := by decide +kernel
theorem mD_62 : ck_t prog_14_method_121_code mT_62 = true := mD_62_0
theorem mO_62 : ck_m lw_tbl mi_cl (mi_ev []) mi_Gs mi_fr mi_lo 62 mG_62 mC_62 = true := by decide +kernel
theorem mD_63_0 : ck_t prog_14_method_123_code mT_63_0 = true := by decide +kernel
theorem mD_63 : ck_t prog_14_method_123_code mT_63 = true := mD_63_0
theorem mO_63 : ck_m lw_tbl mi_cl (mi_ev []) mi_Gs mi_fr mi_lo 63 mG_63 mC_63 = true := by decide +kernel
theorem mD_64_0 : ck_t prog_14_method_3_code mT_64_0 = true := by decide +kernel
theorem mD_64 : ck_t prog_14_method_3_code mT_64 = true := mD_64_0
theorem mO_64 : ck_m lw_tbl mi_cl (mi_ev []) mi_Gs mi_fr mi_lo 64 mG_64 mC_64 = true := by decide +kernel
theorem mD_65_0 : ck_t prog_14_method_132_code mT_65_0 = true := by decide +kernel
theorem mD_65 : ck_t prog_14_method_132_code mT_65 = true := mD_65_0
theorem mO_65 : ck_m lw_tbl mi_cl (mi_ev []) mi_Gs mi_fr mi_lo 65 mG_65 mC_65 = true := by decide +kernel
theorem mD_66_0 : ck_t prog_14_method_1_code mT_66_0 = true := by decide +kernel
theorem mD_66_1 : ck_t prog_14_method_1_code mT_66_1 = true := by decide +kernel
theorem mD_66_2 : ck_t prog_14_method_1_code mT_66_2 = true := by decide +kernel
theorem mD_66_3 : ck_t prog_14_method_1_code mT_66_3 = true := by decide +kernel
theorem mD_66_4 : ck_t prog_14_method_1_code mT_66_4 = true := by decide +kernel
theorem mD_66 : ck_t prog_14_method_1_code mT_66 = true := ck_t_app mD_66_0 (ck_t_app mD_66_1 (ck_t_app mD_66_2 (ck_t_app mD_66_3 mD_66_4)))
theorem mO_66 : ck_m lw_tbl mi_cl (mi_ev []) mi_Gs mi_fr mi_lo 66 mG_66 mC_66 = true := by decide +kernel
theorem mD_67_0 : ck_t prog_14_method_136_code mT_67_0 = true := by decide +kernel
theorem mD_67 : ck_t prog_14_method_136_code mT_67 = true := mD_67_0
theorem mO_67 : ck_m lw_tbl mi_cl (mi_ev []) mi_Gs mi_fr mi_lo 67 mG_67 mC_67 = true := by decide +kernel
theorem mD_68_0 : ck_t prog_14_method_125_code mT_68_0 = true := by decide +kernel
theorem mD_68 : ck_t prog_14_method_125_code mT_68 = true := mD_68_0
theorem mO_68 : ck_m lw_tbl mi_cl (mi_ev []) mi_Gs mi_fr mi_lo 68 mG_68 mC_68 = true := by decide +kernel
theorem mD_69_0 : ck_t prog_14_method_20_code mT_69_0 = true := by decide +kernel
theorem mD_69 : ck_t prog_14_method_20_code mT_69 = true := mD_69_0
theorem mO_69 : ck_m lw_tbl mi_cl (mi_ev []) mi_Gs mi_fr mi_lo 69 mG_69 mC_69 = true := by decide +kernel
