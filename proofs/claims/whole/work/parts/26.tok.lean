/-! The tables are right. -/
abbrev mi_P (xs : List Int32) (j : Nat) (M : mi_Me) : Prop := plainName M.1.cls = true ∧ (∀ q ∈ M.2.2.2.2.1, decode M.2.1 q.1 = .ok (q.2.1, q.2.2) ∧ mi_lenok q.2.1 q.2.2 = true) ∧ mi_Lok (lw_tbl.filter goodWord) mi_cl (mi_ev xs) M.1.cls (M.1.name == "<init>") M.2.2.2.2.2.1 ∧ mi_Kok (fun j => mi_Gs[j]?) (lw_tbl.filter goodWord) mi_cl (mi_ev xs) mi_fr mi_lo j M
theorem mP_0 (xs : List Int32) : mi_P xs 0 mG_0 := ck_m_ok (Ls := mK_0) mO_0 mD_0 rfl rfl mK_0_ok
theorem mP_1 (xs : List Int32) : mi_P xs 1 mG_1 := ck_m_ok (Ls := mK_1) mO_1 mD_1 rfl rfl mK_1_ok
theorem mP_2 (xs : List Int32) : mi_P xs 2 mG_2 := ck_m_ok (Ls := mK_1) mO_2 mD_2 rfl rfl mK_1_ok
theorem mP_3 (xs : List Int32) : mi_P xs 3 mG_3 := ck_m_ok (Ls := mK_1) mO_3 mD_3 rfl rfl mK_1_ok
theorem mP_4 (xs : List Int32) : mi_P xs 4 mG_4 := ck_m_ok (Ls := mK_1) mO_4 mD_4 rfl rfl mK_1_ok
theorem mP_5 (xs : List Int32) : mi_P xs 5 mG_5 := ck_m_ok (Ls := mK_1) mO_5 mD_5 rfl rfl mK_1_ok
theorem mP_6 (xs : List Int32) : mi_P xs 6 mG_6 := ck_m_ok (Ls := mK_2) mO_6 mD_6 rfl rfl mK_2_ok
theorem mP_7 (xs : List Int32) : mi_P xs 7 mG_7 := ck_m_ok (Ls := mK_3) mO_7 mD_7 rfl rfl mK_3_ok
theorem mP_8 (xs : List Int32) : mi_P xs 8 mG_8 := ck_m_ok (Ls := mK_4) mO_8 mD_8 rfl rfl mK_4_ok
theorem mP_9 (xs : List Int32) : mi_P xs 9 mG_9 := ck_m_ok (Ls := mK_5) mO_9 mD_9 rfl rfl mK_5_ok
theorem mP_10 (xs : List Int32) : mi_P xs 10 mG_10 := ck_m_ok (Ls := mK_5i) mO_10 mD_10 rfl rfl mK_5i_ok
theorem mP_11 (xs : List Int32) : mi_P xs 11 mG_11 := ck_m_ok (Ls := mK_5) mO_11 mD_11 rfl rfl mK_5_ok
theorem mP_12 (xs : List Int32) : mi_P xs 12 mG_12 := ck_m_ok (Ls := mK_6) mO_12 mD_12 rfl rfl mK_6_ok
theorem mP_13 (xs : List Int32) : mi_P xs 13 mG_13 := ck_m_ok (Ls := mK_6) mO_13 mD_13 rfl rfl mK_6_ok
theorem mP_14 (xs : List Int32) : mi_P xs 14 mG_14 := ck_m_ok (Ls := mK_6) mO_14 mD_14 rfl rfl mK_6_ok
theorem mP_15 (xs : List Int32) : mi_P xs 15 mG_15 := ck_m_ok (Ls := mK_6) mO_15 mD_15 rfl rfl mK_6_ok
theorem mP_16 (xs : List Int32) : mi_P xs 16 mG_16 := ck_m_ok (Ls := mK_6) mO_16 mD_16 rfl rfl mK_6_ok
theorem mP_17 (xs : List Int32) : mi_P xs 17 mG_17 := ck_m_ok (Ls := mK_6i) mO_17 mD_17 rfl rfl mK_6i_ok
theorem mP_18 (xs : List Int32) : mi_P xs 18 mG_18 := ck_m_ok (Ls := mK_6) mO_18 mD_18 rfl rfl mK_6_ok
theorem mP_19 (xs : List Int32) : mi_P xs 19 mG_19 := ck_m_ok (Ls := mK_6) mO_19 mD_19 rfl rfl mK_6_ok
theorem mP_20 (xs : List Int32) : mi_P xs 20 mG_20 := ck_m_ok (Ls := mK_6) mO_20 mD_20 rfl rfl mK_6_ok
theorem mP_21 (xs : List Int32) : mi_P xs 21 mG_21 := ck_m_ok (Ls := mK_6) mO_21 mD_21 rfl rfl mK_6_ok
theorem mP_22 (xs : List Int32) : mi_P xs 22 mG_22 := ck_m_ok (Ls := mK_6) mO_22 mD_22 rfl rfl mK_6_ok
theorem mP_23 (xs : List Int32) : mi_P xs 23 mG_23 := ck_m_ok (Ls := mK_6) mO_23 mD_23 rfl rfl mK_6_ok
theorem mP_24 (xs : List Int32) : mi_P xs 24 mG_24 := ck_m_ok (Ls := mK_6) mO_24 mD_24 rfl rfl mK_6_ok
theorem mP_25 (xs : List Int32) : mi_P xs 25 mG_25 := ck_m_ok (Ls := mK_6) mO_25 mD_25 rfl rfl mK_6_ok
theorem mP_26 (xs : List Int32) : mi_P xs 26 mG_26 := ck_m_ok (Ls := mK_7) mO_26 mD_26 rfl rfl mK_7_ok
theorem mP_27 (xs : List Int32) : mi_P xs 27 mG_27 := ck_m_ok (Ls := mK_7) mO_27 mD_27 rfl rfl mK_7_ok
theorem mP_28 (xs : List Int32) : mi_P xs 28 mG_28 := ck_m_ok (Ls := mK_7) mO_28 mD_28 rfl rfl mK_7_ok
theorem mP_29 (xs : List Int32) : mi_P xs 29 mG_29 := ck_m_ok (Ls := mK_7) mO_29 mD_29 rfl rfl mK_7_ok
theorem mP_30 (xs : List Int32) : mi_P xs 30 mG_30 := ck_m_ok (Ls := mK_7) mO_30 mD_30 rfl rfl mK_7_ok
theorem mP_31 (xs : List Int32) : mi_P xs 31 mG_31 := ck_m_ok (Ls := mK_7) mO_31 mD_31 rfl rfl mK_7_ok
theorem mP_32 (xs : List Int32) : mi_P xs 32 mG_32 := ck_m_ok (Ls := mK_7) mO_32 mD_32 rfl rfl mK_7_ok
theorem mP_33 (xs : List Int32) : mi_P xs 33 mG_33 := ck_m_ok (Ls := mK_7) mO_33 mD_33 rfl rfl mK_7_ok
theorem mP_34 (xs : List Int32) : mi_P xs 34 mG_34 := ck_m_ok (Ls := mK_7) mO_34 mD_34 rfl rfl mK_7_ok
theorem mP_35 (xs : List Int32) : mi_P xs 35 mG_35 := ck_m_ok (Ls := mK_7) mO_35 mD_35 rfl rfl mK_7_ok
theorem mP_36 (xs : List Int32) : mi_P xs 36 mG_36 := ck_m_ok (Ls := mK_7i) mO_36 mD_36 rfl rfl mK_7i_ok
theorem mP_37 (xs : List Int32) : mi_P xs 37 mG_37 := ck_m_ok (Ls := mK_7) mO_37 mD_37 rfl rfl mK_7_ok
theorem mP_38 (xs : List Int32) : mi_P xs 38 mG_38 := ck_m_ok (Ls := mK_7) mO_38 mD_38 rfl rfl mK_7_ok
theorem mP_39 (xs : List Int32) : mi_P xs 39 mG_39 := ck_m_ok (Ls := mK_7) mO_39 mD_39 rfl rfl mK_7_ok
theorem mP_40 (xs : List Int32) : mi_P xs 40 mG_40 := ck_m_ok (Ls := mK_7) mO_40 mD_40 rfl rfl mK_7_ok
theorem mP_41 (xs : List Int32) : mi_P xs 41 mG_41 := ck_m_ok (Ls := mK_7) mO_41 mD_41 rfl rfl mK_7_ok
theorem mP_42 (xs : List Int32) : mi_P xs 42 mG_42 := ck_m_ok (Ls := mK_7) mO_42 mD_42 rfl rfl mK_7_ok
theorem mP_43 (xs : List Int32) : mi_P xs 43 mG_43 := ck_m_ok (Ls := mK_7) mO_43 mD_43 rfl rfl mK_7_ok
theorem mP_44 (xs : List Int32) : mi_P xs 44 mG_44 := ck_m_ok (Ls := mK_7) mO_44 mD_44 rfl rfl mK_7_ok
theorem mP_45 (xs : List Int32) : mi_P xs 45 mG_45 := ck_m_ok (Ls := mK_7) mO_45 mD_45 rfl rfl mK_7_ok
theorem mP_46 (xs : List Int32) : mi_P xs 46 mG_46 := ck_m_ok (Ls := mK_7) mO_46 mD_46 rfl rfl mK_7_ok
theorem mP_47 (xs : List Int32) : mi_P xs 47 mG_47 := ck_m_ok (Ls := mK_7) mO_47 mD_47 rfl rfl mK_7_ok
theorem mP_48 (xs : List Int32) : mi_P xs 48 mG_48 := ck_m_ok (Ls := mK_7) mO_48 mD_48 rfl rfl mK_7_ok
theorem mP_49 (xs : List Int32) : mi_P xs 49 mG_49 := ck_m_ok (Ls := mK_7) mO_49 mD_49 rfl rfl mK_7_ok
theorem mP_50 (xs : List Int32) : mi_P xs 50 mG_50 := ck_m_ok (Ls := mK_7) mO_50 mD_50 rfl rfl mK_7_ok
theorem mP_51 (xs : List Int32) : mi_P xs 51 mG_51 := ck_m_ok (Ls := mK_7) mO_51 mD_51 rfl rfl mK_7_ok
theorem mP_52 (xs : List Int32) : mi_P xs 52 mG_52 := ck_m_ok (Ls := mK_7) mO_52 mD_52 rfl rfl mK_7_ok
theorem mP_53 (xs : List Int32) : mi_P xs 53 mG_53 := ck_m_ok (Ls := mK_8i) mO_53 mD_53 rfl rfl mK_8i_ok
theorem mP_54 (xs : List Int32) : mi_P xs 54 mG_54 := ck_m_ok (Ls := mK_9) mO_54 mD_54 rfl rfl mK_9_ok
theorem mP_55 (xs : List Int32) : mi_P xs 55 mG_55 := ck_m_ok (Ls := mK_9) mO_55 mD_55 rfl rfl mK_9_ok
theorem mP_56 (xs : List Int32) : mi_P xs 56 mG_56 := ck_m_ok (Ls := mK_9) mO_56 mD_56 rfl rfl mK_9_ok
theorem mP_57 (xs : List Int32) : mi_P xs 57 mG_57 := ck_m_ok (Ls := mK_9) mO_57 mD_57 rfl rfl mK_9_ok
theorem mP_58 (xs : List Int32) : mi_P xs 58 mG_58 := ck_m_ok (Ls := mK_9) mO_58 mD_58 rfl rfl mK_9_ok
theorem mP_59 (xs : List Int32) : mi_P xs 59 mG_59 := ck_m_ok (Ls := mK_9) mO_59 mD_59 rfl rfl mK_9_ok
theorem mP_60 (xs : List Int32) : mi_P xs 60 mG_60 := ck_m_ok (Ls := mK_9) mO_60 mD_60 rfl rfl mK_9_ok
theorem mP_61 (xs : List Int32) : mi_P xs 61 mG_61 := ck_m_ok (Ls := mK_9) mO_61 mD_61 rfl rfl mK_9_ok
theorem mP_62 (xs : List Int32) : mi_P xs 62 mG_62 := ck_m_ok (Ls := mK_9) mO_62 mD_62 rfl rfl mK_9_ok
theorem mP_63 (xs : List Int32) : mi_P xs 63 mG_63 := ck_m_ok (Ls := mK_9) mO_63 mD_63 rfl rfl mK_9_ok
theorem mP_64 (xs : List Int32) : mi_P xs 64 mG_64 := ck_m_ok (Ls := mK_9) mO_64 mD_64 rfl rfl mK_9_ok
theorem mP_65 (xs : List Int32) : mi_P xs 65 mG_65 := ck_m_ok (Ls := mK_9) mO_65 mD_65 rfl rfl mK_9_ok
theorem mP_66 (xs : List Int32) : mi_P xs 66 mG_66 := ck_m_ok (Ls := mK_9i) mO_66 mD_66 rfl rfl mK_9i_ok
theorem mP_67 (xs : List Int32) : mi_P xs 67 mG_67 := ck_m_ok (Ls := mK_9) mO_67 mD_67 rfl rfl mK_9_ok
theorem mP_68 (xs : List Int32) : mi_P xs 68 mG_68 := ck_m_ok (Ls := mK_9) mO_68 mD_68 rfl rfl mK_9_ok
theorem mP_69 (xs : List Int32) : mi_P xs 69 mG_69 := ck_m_ok (Ls := mK_9) mO_69 mD_69 rfl rfl mK_9_ok
theorem mP_70 (xs : List Int32) : mi_P xs 70 mG_70 := ck_m_ok (Ls := mK_9) mO_70 mD_70 rfl rfl mK_9_ok
theorem mP_71 (xs : List Int32) : mi_P xs 71 mG_71 := ck_m_ok (Ls := mK_9) mO_71 mD_71 rfl rfl mK_9_ok
theorem mP_72 (xs : List Int32) : mi_P xs 72 mG_72 := ck_m_ok (Ls := mK_9) mO_72 mD_72 rfl rfl mK_9_ok
theorem mP_73 (xs : List Int32) : mi_P xs 73 mG_73 := ck_m_ok (Ls := mK_9) mO_73 mD_73 rfl rfl mK_9_ok
theorem mP_74 (xs : List Int32) : mi_P xs 74 mG_74 := ck_m_ok (Ls := mK_9) mO_74 mD_74 rfl rfl mK_9_ok
theorem mP_75 (xs : List Int32) : mi_P xs 75 mG_75 := ck_m_ok (Ls := mK_9) mO_75 mD_75 rfl rfl mK_9_ok
theorem mP_76 (xs : List Int32) : mi_P xs 76 mG_76 := ck_m_ok (Ls := mK_9) mO_76 mD_76 rfl rfl mK_9_ok
theorem mP_77 (xs : List Int32) : mi_P xs 77 mG_77 := ck_m_ok (Ls := mK_9) mO_77 mD_77 rfl rfl mK_9_ok
theorem mP_78 (xs : List Int32) : mi_P xs 78 mG_78 := ck_m_ok (Ls := mK_9) mO_78 mD_78 rfl rfl mK_9_ok
theorem mP_79 (xs : List Int32) : mi_P xs 79 mG_79 := ck_m_ok (Ls := mK_9) mO_79 mD_79 rfl rfl mK_9_ok
theorem mP_80 (xs : List Int32) : mi_P xs 80 mG_80 := ck_m_ok (Ls := mK_9) mO_80 mD_80 rfl rfl mK_9_ok
theorem mP_81 (xs : List Int32) : mi_P xs 81 mG_81 := ck_m_ok (Ls := mK_9) mO_81 mD_81 rfl rfl mK_9_ok
theorem mP_82 (xs : List Int32) : mi_P xs 82 mG_82 := ck_m_ok (Ls := mK_9) mO_82 mD_82 rfl rfl mK_9_ok
theorem mP_83 (xs : List Int32) : mi_P xs 83 mG_83 := ck_m_ok (Ls := mK_9) mO_83 mD_83 rfl rfl mK_9_ok
theorem mP_84 (xs : List Int32) : mi_P xs 84 mG_84 := ck_m_ok (Ls := mK_9) mO_84 mD_84 rfl rfl mK_9_ok
theorem mP_85 (xs : List Int32) : mi_P xs 85 mG_85 := ck_m_ok (Ls := mK_9) mO_85 mD_85 rfl rfl mK_9_ok
theorem mP_86 (xs : List Int32) : mi_P xs 86 mG_86 := ck_m_ok (Ls := mK_9) mO_86 mD_86 rfl rfl mK_9_ok
theorem mP_87 (xs : List Int32) : mi_P xs 87 mG_87 := ck_m_ok (Ls := mK_9) mO_87 mD_87 rfl rfl mK_9_ok
theorem mP_88 (xs : List Int32) : mi_P xs 88 mG_88 := ck_m_ok (Ls := mK_9) mO_88 mD_88 rfl rfl mK_9_ok
theorem mP_89 (xs : List Int32) : mi_P xs 89 mG_89 := ck_m_ok (Ls := mK_9) mO_89 mD_89 rfl rfl mK_9_ok
theorem mP_90 (xs : List Int32) : mi_P xs 90 mG_90 := ck_m_ok (Ls := mK_10) mO_90 mD_90 rfl rfl mK_10_ok
theorem mP_91 (xs : List Int32) : mi_P xs 91 mG_91 := ck_m_ok (Ls := mK_10) mO_91 mD_91 rfl rfl mK_10_ok
theorem mP_92 (xs : List Int32) : mi_P xs 92 mG_92 := ck_m_ok (Ls := mK_10i) mO_92 mD_92 rfl rfl mK_10i_ok
theorem mP_93 (xs : List Int32) : mi_P xs 93 mG_93 := ck_m_ok (Ls := mK_11i) mO_93 mD_93 rfl rfl mK_11i_ok
theorem mP_94 (xs : List Int32) : mi_P xs 94 mG_94 := ck_m_ok (Ls := mK_12) mO_94 mD_94 rfl rfl mK_12_ok
theorem mP_95 (xs : List Int32) : mi_P xs 95 mG_95 := ck_m_ok (Ls := mK_12i) mO_95 mD_95 rfl rfl mK_12i_ok
theorem mP_96 (xs : List Int32) : mi_P xs 96 mG_96 := ck_m_ok (Ls := mK_13i) mO_96 mD_96 rfl rfl mK_13i_ok
theorem mP_97 (xs : List Int32) : mi_P xs 97 mG_97 := ck_m_ok (Ls := mK_14) mO_97 mD_97 rfl rfl mK_14_ok
theorem mP_98 (xs : List Int32) : mi_P xs 98 mG_98 := ck_m_ok (Ls := mK_14) mO_98 mD_98 rfl rfl mK_14_ok
theorem mP_99 (xs : List Int32) : mi_P xs 99 mG_99 := ck_m_ok (Ls := mK_14) mO_99 mD_99 rfl rfl mK_14_ok
theorem mP_100 (xs : List Int32) : mi_P xs 100 mG_100 := ck_m_ok (Ls := mK_14i) mO_100 mD_100 rfl rfl mK_14i_ok
theorem mP_101 (xs : List Int32) : mi_P xs 101 mG_101 := ck_m_ok (Ls := mK_14) mO_101 mD_101 rfl rfl mK_14_ok
theorem mP_102 (xs : List Int32) : mi_P xs 102 mG_102 := ck_m_ok (Ls := mK_15) mO_102 mD_102 rfl rfl mK_15_ok
theorem mP_103 (xs : List Int32) : mi_P xs 103 mG_103 := ck_m_ok (Ls := mK_15i) mO_103 mD_103 rfl rfl mK_15i_ok
theorem mP_104 (xs : List Int32) : mi_P xs 104 mG_104 := ck_m_ok (Ls := mK_15) mO_104 mD_104 rfl rfl mK_15_ok
theorem mP_105 (xs : List Int32) : mi_P xs 105 mG_105 := ck_m_ok (Ls := mK_15) mO_105 mD_105 rfl rfl mK_15_ok
theorem mP_106 (xs : List Int32) : mi_P xs 106 mG_106 := ck_m_ok (Ls := mK_15) mO_106 mD_106 rfl rfl mK_15_ok
theorem mP_107 (xs : List Int32) : mi_P xs 107 mG_107 := ck_m_ok (Ls := mK_16) mO_107 mD_107 rfl rfl mK_16_ok
theorem mP_108 (xs : List Int32) : mi_P xs 108 mG_108 := ck_m_ok (Ls := mK_16i) mO_108 mD_108 rfl rfl mK_16i_ok
theorem mP_109 (xs : List Int32) : mi_P xs 109 mG_109 := ck_m_ok (Ls := mK_17i) mO_109 mD_109 rfl rfl mK_17i_ok
theorem mP_110 (xs : List Int32) : mi_P xs 110 mG_110 := ck_m_ok (Ls := mK_18i) mO_110 mD_110 rfl rfl mK_18i_ok
theorem mi_tok (xs : List Int32) : mi_Tok (fun j => mi_Gs[j]?) (lw_tbl.filter goodWord) mi_cl (mi_ev xs) mi_fr mi_lo := by
  refine ⟨mi_goodT lw_tbl, ck_C_ok mi_cl_ok, ?_, ?_⟩
  · intro w hw
    simp only [mi_ev, mi_e5, List.mem_cons, List.not_mem_nil, or_false] at hw
    rcases hw with rfl | rfl | rfl | rfl | rfl | rfl | rfl | rfl
    · exact Or.inl ⟨_, _, _, _, rfl⟩
    · exact Or.inl ⟨_, _, _, _, rfl⟩
    · exact Or.inl ⟨_, _, _, _, rfl⟩
    · exact Or.inl ⟨_, _, _, _, rfl⟩
    · exact Or.inl ⟨_, _, _, _, rfl⟩
    · exact Or.inl ⟨_, _, _, _, rfl⟩
    · exact Or.inl ⟨_, _, _, _, rfl⟩
    · exact Or.inr ⟨_, _, rfl⟩
  · intro j M h
    match j, h with
    | 0, h => cases h; exact mP_0 xs
    | 1, h => cases h; exact mP_1 xs
    | 2, h => cases h; exact mP_2 xs
    | 3, h => cases h; exact mP_3 xs
    | 4, h => cases h; exact mP_4 xs
    | 5, h => cases h; exact mP_5 xs
    | 6, h => cases h; exact mP_6 xs
    | 7, h => cases h; exact mP_7 xs
    | 8, h => cases h; exact mP_8 xs
    | 9, h => cases h; exact mP_9 xs
    | 10, h => cases h; exact mP_10 xs
    | 11, h => cases h; exact mP_11 xs
    | 12, h => cases h; exact mP_12 xs
    | 13, h => cases h; exact mP_13 xs
    | 14, h => cases h; exact mP_14 xs
    | 15, h => cases h; exact mP_15 xs
    | 16, h => cases h; exact mP_16 xs
    | 17, h => cases h; exact mP_17 xs
    | 18, h => cases h; exact mP_18 xs
    | 19, h => cases h; exact mP_19 xs
    | 20, h => cases h; exact mP_20 xs
    | 21, h => cases h; exact mP_21 xs
    | 22, h => cases h; exact mP_22 xs
    | 23, h => cases h; exact mP_23 xs
    | 24, h => cases h; exact mP_24 xs
    | 25, h => cases h; exact mP_25 xs
    | 26, h => cases h; exact mP_26 xs
    | 27, h => cases h; exact mP_27 xs
    | 28, h => cases h; exact mP_28 xs
    | 29, h => cases h; exact mP_29 xs
    | 30, h => cases h; exact mP_30 xs
    | 31, h => cases h; exact mP_31 xs
    | 32, h => cases h; exact mP_32 xs
    | 33, h => cases h; exact mP_33 xs
    | 34, h => cases h; exact mP_34 xs
    | 35, h => cases h; exact mP_35 xs
    | 36, h => cases h; exact mP_36 xs
    | 37, h => cases h; exact mP_37 xs
    | 38, h => cases h; exact mP_38 xs
    | 39, h => cases h; exact mP_39 xs
    | 40, h => cases h; exact mP_40 xs
    | 41, h => cases h; exact mP_41 xs
    | 42, h => cases h; exact mP_42 xs
    | 43, h => cases h; exact mP_43 xs
    | 44, h => cases h; exact mP_44 xs
    | 45, h => cases h; exact mP_45 xs
    | 46, h => cases h; exact mP_46 xs
    | 47, h => cases h; exact mP_47 xs
    | 48, h => cases h; exact mP_48 xs
    | 49, h => cases h; exact mP_49 xs
    | 50, h => cases h; exact mP_50 xs
    | 51, h => cases h; exact mP_51 xs
    | 52, h => cases h; exact mP_52 xs
    | 53, h => cases h; exact mP_53 xs
    | 54, h => cases h; exact mP_54 xs
    | 55, h => cases h; exact mP_55 xs
    | 56, h => cases h; exact mP_56 xs
    | 57, h => cases h; exact mP_57 xs
    | 58, h => cases h; exact mP_58 xs
    | 59, h => cases h; exact mP_59 xs
    | 60, h => cases h; exact mP_60 xs
    | 61, h => cases h; exact mP_61 xs
    | 62, h => cases h; exact mP_62 xs
    | 63, h => cases h; exact mP_63 xs
    | 64, h => cases h; exact mP_64 xs
    | 65, h => cases h; exact mP_65 xs
    | 66, h => cases h; exact mP_66 xs
    | 67, h => cases h; exact mP_67 xs
    | 68, h => cases h; exact mP_68 xs
    | 69, h => cases h; exact mP_69 xs
    | 70, h => cases h; exact mP_70 xs
    | 71, h => cases h; exact mP_71 xs
    | 72, h => cases h; exact mP_72 xs
    | 73, h => cases h; exact mP_73 xs
    | 74, h => cases h; exact mP_74 xs
    | 75, h => cases h; exact mP_75 xs
    | 76, h => cases h; exact mP_76 xs
    | 77, h => cases h; exact mP_77 xs
    | 78, h => cases h; exact mP_78 xs
    | 79, h => cases h; exact mP_79 xs
    | 80, h => cases h; exact mP_80 xs
    | 81, h => cases h; exact mP_81 xs
    | 82, h => cases h; exact mP_82 xs
    | 83, h => cases h; exact mP_83 xs
    | 84, h => cases h; exact mP_84 xs
    | 85, h => cases h; exact mP_85 xs
    | 86, h => cases h; exact mP_86 xs
    | 87, h => cases h; exact mP_87 xs
    | 88, h => cases h; exact mP_88 xs
    | 89, h => cases h; exact mP_89 xs
    | 90, h => cases h; exact mP_90 xs
    | 91, h => cases h; exact mP_91 xs
    | 92, h => cases h; exact mP_92 xs
    | 93, h => cases h; exact mP_93 xs
    | 94, h => cases h; exact mP_94 xs
    | 95, h => cases h; exact mP_95 xs
    | 96, h => cases h; exact mP_96 xs
    | 97, h => cases h; exact mP_97 xs
    | 98, h => cases h; exact mP_98 xs
    | 99, h => cases h; exact mP_99 xs
    | 100, h => cases h; exact mP_100 xs
    | 101, h => cases h; exact mP_101 xs
    | 102, h => cases h; exact mP_102 xs
    | 103, h => cases h; exact mP_103 xs
    | 104, h => cases h; exact mP_104 xs
    | 105, h => cases h; exact mP_105 xs
    | 106, h => cases h; exact mP_106 xs
    | 107, h => cases h; exact mP_107 xs
    | 108, h => cases h; exact mP_108 xs
    | 109, h => cases h; exact mP_109 xs
    | 110, h => cases h; exact mP_110 xs
    | n + 111, h => cases h
