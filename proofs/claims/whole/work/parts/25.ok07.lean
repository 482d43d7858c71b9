/-! Checks of methods. -/
theorem mD_70_0 : ck_t prog_14_method_130_code mT_70_0 = true := by decide +kernel
theorem mD_70 : ck_t prog_14_method_130_code mT_70 = true := mD_70_0
theorem mO_70 : ck_m lw_tbl mi_cl (mi_ev []) mi_Gs mi_fr mi_lo 70 mG_70 mC_70 = true := by decide +kernel
theorem mD_71_0 : ck_t prog_14_method_135_code mT_71_0 = true := by decide +kernel
theorem mD_71 : ck_t prog_14_method_135_code mT_71 = true := mD_71_0
theorem mO_71 : ck_m lw_tbl mi_cl (mi_ev []) mi_Gs mi_fr mi_lo 71 mG_71 mC_71 = true := by decide +kernel
theorem mD_72_0 : ck_t prog_14_method_40_code mT_72_0 = true := by decide +kernel
theorem mD_72 : ck_t prog_14_method_40_code mT_72 = true := mD_72_0
theorem mO_72 : ck_m lw_tbl mi_cl (mi_ev []) mi_Gs mi_fr mi_lo 72 mG_72 mC_72 = true := by decide +kernel
theorem mD_73_0 : ck_t prog_14_method_122_code mT_73_0 = true := by decide +kernel
theorem mD_73 : ck_t prog_14_method_122_code mT_73 = true := mD_73_0
theorem mO_73 : ck_m lw_tbl mi_cl (mi_ev []) mi_Gs mi_fr mi_lo 73 mG_73 mC_73 = true := by decide +kernel
theorem mD_74_0 : ck_t prog_14_method_131_code mT_74_0 = true := by decide +kernel
theorem mD_74 : ck_t prog_14_method_131_code mT_74 = true := mD_74_0
theorem mO_74 : ck_m lw_tbl mi_cl (mi_ev []) mi_Gs mi_fr mi_lo 74 mG_74 mC_74 = true := by decide +kernel
theorem mD_75_0 : ck_t prog_14_method_36_code mT_75_0 = true := by decide +kernel
theorem mD_75 : ck_t prog_14_method_36_code mT_75 = true := mD_75_0
theorem mO_75 : ck_m lw_tbl mi_cl (mi_ev []) mi_Gs mi_fr mi_lo 75 mG_75 mC_75 = true := by decide +kernel
theorem mD_76_0 : ck_t prog_14_method_165_code mT_76_0 = true := by decide +kernel
theorem mD_76 : ck_t prog_14_method_165_code mT_76 = true := mD_76_0
theorem mO_76 : ck_m lw_tbl mi_cl (mi_ev []) mi_Gs mi_fr mi_lo 76 mG_76 mC_76 = true := by decide +kernel
theorem mD_77_0 : ck_t prog_14_method_162_code mT_77_0 = true := by decide +kernel
theorem mD_77 : ck_t prog_14_method_162_code mT_77 = true := mD_77_0
theorem mO_77 : ck_m lw_tbl mi_cl (mi_ev []) mi_Gs mi_fr mi_lo 77 mG_77 mC_77 = true := by decide +kernel
theorem mD_78_0 : ck_t prog_14_method_137_code mT_78_0 = true := by decide +kernel
theorem mD_78_1 : ck_t prog_14_method_137_code mT_78_1 = true := by decide +kernel
theorem mD_78_2 : ck_t prog_14_method_137_code mT_78_2 = true := by decide +kernel
theorem mD_78 : ck_t prog_14_method_137_code mT_78 = true := ck_t_app mD_78_0 (ck_t_app mD_78_1 mD_78_2)
theorem mO_78 : ck_m lw_tbl mi_cl (mi_ev []) mi_Gs mi_fr mi_lo 78 mG_78 mC_78 = true := by decide +kernel
theorem mD_79_0 : ck_t prog_14_method_52_code mT_79_0 = true := by decide +kernel
theorem mD_79_1 : ck_t prog_14_method_52_code mT_79_1 = true := by decide +kernel
theorem mD_79_2 : ck_t prog_14_method_52_code mT_79_2 = true := by decide +kernel
theorem mD_79_3 : ck_t prog_14_method_52_code mT_79_3 = true := by decide +kernel
theorem mD_79_4 : ck_t prog_14_method_52_code mT_79_4 = true := by decide +kernel
theorem mD_79 : ck_t prog_14_method_52_code mT_79 = true := ck_t_app mD_79_0 (ck_t_app mD_79_1 (ck_t_app mD_79_2 (ck_t_app mD_79_3 mD_79_4)))
theorem mO_79 : ck_m lw_tbl mi_cl (mi_ev []) mi_Gs mi_fr mi_lo 79 mG_79 mC_79 = true := by decide +kernel
