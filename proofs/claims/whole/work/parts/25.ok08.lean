/-! Checks of methods. -/
theorem mD_80_0 : ck_t prog_14_method_133_code mT_80_0 = true := by decide +kernel
theorem mD_80 : ck_t prog_14_method_133_code mT_80 = true := mD_80_0
theorem mO_80 : ck_m lw_tbl mi_cl (mi_ev []) mi_Gs mi_fr mi_lo 80 mG_80 mC_80 = true := by decide +kernel
theorem mD_81_0 : ck_t prog_14_method_124_code mT_81_0 = true := by decide +kernel
theorem mD_81 : ck_t prog_14_method_124_code mT_81 = true := mD_81_0
theorem mO_81 : ck_m lw_tbl mi_cl (mi_ev []) mi_Gs mi_fr mi_lo 81 mG_81 mC_81 = true := by decide +kernel
theorem mD_82_0 : ck_t prog_14_method_129_code mT_82_0 = true := by decide +kernel
theorem mD_82 : ck_t prog_14_method_129_code mT_82 = true := mD_82_0
theorem mO_82 : ck_m lw_tbl mi_cl (mi_ev []) mi_Gs mi_fr mi_lo 82 mG_82 mC_82 = true := by decide +kernel
theorem mD_83_0 : ck_t prog_14_method_161_code mT_83_0 = true := by decide +kernel
theorem mD_83 : ck_t prog_14_method_161_code mT_83 = true := mD_83_0
theorem mO_83 : ck_m lw_tbl mi_cl (mi_ev []) mi_Gs mi_fr mi_lo 83 mG_83 mC_83 = true := by decide +kernel
theorem mD_84_0 : ck_t prog_14_method_166_code mT_84_0 = true := by decide +kernel
theorem mD_84 : ck_t prog_14_method_166_code mT_84 = true := mD_84_0
theorem mO_84 : ck_m lw_tbl mi_cl (mi_ev []) mi_Gs mi_fr mi_lo 84 mG_84 mC_84 = true := by decide +kernel
theorem mD_85_0 : ck_t prog_14_method_51_code mT_85_0 = true := by decide +kernel
theorem mD_85 : ck_t prog_14_method_51_code mT_85 = true := mD_85_0
theorem mO_85 : ck_m lw_tbl mi_cl (mi_ev []) mi_Gs mi_fr mi_lo 85 mG_85 mC_85 = true := by decide +kernel
theorem mD_86_0 : ck_t prog_14_method_163_code mT_86_0 = true := by decide +kernel
theorem mD_86 : ck_t prog_14_method_163_code mT_86 = true := mD_86_0
theorem mO_86 : ck_m lw_tbl mi_cl (mi_ev []) mi_Gs mi_fr mi_lo 86 mG_86 mC_86 = true := by decide +kernel
theorem mD_87_0 : ck_t prog_14_method_2_code mT_87_0 = true := by decide +kernel
theorem mD_87 : ck_t prog_14_method_2_code mT_87 = true := mD_87_0
theorem mO_87 : ck_m lw_tbl mi_cl (mi_ev []) mi_Gs mi_fr mi_lo 87 mG_87 mC_87 = true := by decide +kernel
theorem mD_88_0 : ck_t prog_14_method_164_code mT_88_0 = true := by decide +kernel
theorem mD_88 : ck_t prog_14_method_164_code mT_88 = true := mD_88_0
theorem mO_88 : ck_m lw_tbl mi_cl (mi_ev []) mi_Gs mi_fr mi_lo 88 mG_88 mC_88 = true := by decide +kernel
theorem mD_89_0 : ck_t prog_14_method_32_code mT_89_0 = true := by decide +kernel
theorem mD_89 : ck_t prog_14_method_32_code mT_89 = true := mD_89_0
theorem mO_89 : ck_m lw_tbl mi_cl (mi_ev []) mi_Gs mi_fr mi_lo 89 mG_89 mC_89 = true := by decide +kernel
theorem mD_90_0 : ck_t prog_3_method_3_code mT_90_0 = true := by decide +kernel
theorem mD_90 : ck_t prog_3_method_3_code mT_90 = true := mD_90_0
theorem mO_90 : ck_m lw_tbl mi_cl (mi_ev []) mi_Gs mi_fr mi_lo 90 mG_90 mC_90 = true := by decide +kernel
theorem mD_91_0 : ck_t prog_3_method_2_code mT_91_0 = true := by decide +kernel
theorem mD_91 : ck_t prog_3_method_2_code mT_91 = true := mD_91_0
theorem mO_91 : ck_m lw_tbl mi_cl (mi_ev []) mi_Gs mi_fr mi_lo 91 mG_91 mC_91 = true := by decide +kernel
