/-! The tables are right. -/
abbrev mi_P (xs : List Int32) (j : Nat) (M : mi_Me) : Prop := plainName M.1.cls = true ∧ (∀ q ∈ M.2.2.2.2.1, decode M.2.1 q.1 = .ok (q.2.1, q.2.2) ∧ mi_lenok q.2.1 q.2.2 = true) ∧ mi_Lok (lw_tbl.filter goodWord) mi_cl (mi_ev xs) M.1.cls (M.1.name == "<init>") M.2.2.2.2.2.1 ∧ mi_Kok (fun j => mi_Gs[j]?) (lw_tbl.filter goodWord) mi_cl (mi_ev xs) mi_fr mi_lo j M
theorem mi_hq : ∀ (j' : Nat) (M' : mi_Me) (kd n ci : Nat), mi_Gs[j']? = some M' → mi_mq[j']? = some (kd, n, ci) → kd ≠ 9 → mi_Qf (lw_tbl.filter goodWord) mi_cl M' kd n ci ∧ Cond.code M'.1 M'.2.1 M'.2.2.1 M'.2.2.2.1 ∈ lw_tbl.filter goodWord := by
  intro j M kd n ci h1 h2 h3
  match j, h1, h2 with
  | 0, h1, h2 => cases h1; cases h2; exact absurd rfl h3
  | 1, h1, h2 => cases h1; cases h2; exact ⟨ck_q_ok mQ_1, mW_1⟩
  | 2, h1, h2 => cases h1; cases h2; exact ⟨ck_q_ok mQ_2, mW_2⟩
  | 3, h1, h2 => cases h1; cases h2; exact ⟨ck_q_ok mQ_3, mW_3⟩
  | 4, h1, h2 => cases h1; cases h2; exact ⟨ck_q_ok mQ_4, mW_4⟩
  | 5, h1, h2 => cases h1; cases h2; exact ⟨ck_q_ok mQ_5, mW_5⟩
  | 6, h1, h2 => cases h1; cases h2; exact ⟨ck_q_ok mQ_6, mW_6⟩
  | 7, h1, h2 => cases h1; cases h2; exact ⟨ck_q_ok mQ_7, mW_7⟩
  | 8, h1, h2 => cases h1; cases h2; exact ⟨ck_q_ok mQ_8, mW_8⟩
  | 9, h1, h2 => cases h1; cases h2; exact ⟨ck_q_ok mQ_9, mW_9⟩
  | 10, h1, h2 => cases h1; cases h2; exact ⟨ck_q_ok mQ_10, mW_10⟩
  | 11, h1, h2 => cases h1; cases h2; exact ⟨ck_q_ok mQ_11, mW_11⟩
  | 12, h1, h2 => cases h1; cases h2; exact ⟨ck_q_ok mQ_12, mW_12⟩
  | 13, h1, h2 => cases h1; cases h2; exact ⟨ck_q_ok mQ_13, mW_13⟩
  | 14, h1, h2 => cases h1; cases h2; exact ⟨ck_q_ok mQ_14, mW_14⟩
  | 15, h1, h2 => cases h1; cases h2; exact ⟨ck_q_ok mQ_15, mW_15⟩
  | 16, h1, h2 => cases h1; cases h2; exact ⟨ck_q_ok mQ_16, mW_16⟩
  | 17, h1, h2 => cases h1; cases h2; exact ⟨ck_q_ok mQ_17, mW_17⟩
  | 18, h1, h2 => cases h1; cases h2; exact ⟨ck_q_ok mQ_18, mW_18⟩
  | 19, h1, h2 => cases h1; cases h2; exact ⟨ck_q_ok mQ_19, mW_19⟩
  | 20, h1, h2 => cases h1; cases h2; exact ⟨ck_q_ok mQ_20, mW_20⟩
  | 21, h1, h2 => cases h1; cases h2; exact ⟨ck_q_ok mQ_21, mW_21⟩
  | 22, h1, h2 => cases h1; cases h2; exact ⟨ck_q_ok mQ_22, mW_22⟩
  | 23, h1, h2 => cases h1; cases h2; exact ⟨ck_q_ok mQ_23, mW_23⟩
  | 24, h1, h2 => cases h1; cases h2; exact ⟨ck_q_ok mQ_24, mW_24⟩
  | 25, h1, h2 => cases h1; cases h2; exact ⟨ck_q_ok mQ_25, mW_25⟩
  | 26, h1, h2 => cases h1; cases h2; exact ⟨ck_q_ok mQ_26, mW_26⟩
  | 27, h1, h2 => cases h1; cases h2; exact ⟨ck_q_ok mQ_27, mW_27⟩
  | 28, h1, h2 => cases h1; cases h2; exact ⟨ck_q_ok mQ_28, mW_28⟩
  | 29, h1, h2 => cases h1; cases h2; exact ⟨ck_q_ok mQ_29, mW_29⟩
  | 30, h1, h2 => cases h1; cases h2; exact ⟨ck_q_ok mQ_30, mW_30⟩
  | 31, h1, h2 => cases h1; cases h2; exact ⟨ck_q_ok mQ_31, mW_31⟩
  | 32, h1, h2 => cases h1; cases h2; exact ⟨ck_q_ok mQ_32, mW_32⟩
  | 33, h1, h2 => cases h1; cases h2; exact ⟨ck_q_ok mQ_33, mW_33⟩
  | 34, h1, h2 => cases h1; cases h2; exact ⟨ck_q_ok mQ_34, mW_34⟩
  | 35, h1, h2 => cases h1; cases h2; exact ⟨ck_q_ok mQ_35, mW_35⟩
  | 36, h1, h2 => cases h1; cases h2; exact ⟨ck_q_ok mQ_36, mW_36⟩
  | 37, h1, h2 => cases h1; cases h2; exact ⟨ck_q_ok mQ_37, mW_37⟩
  | 38, h1, h2 => cases h1; cases h2; exact ⟨ck_q_ok mQ_38, mW_38⟩
  | 39, h1, h2 => cases h1; cases h2; exact ⟨ck_q_ok mQ_39, mW_39⟩
  | 40, h1, h2 => cases h1; cases h2; exact ⟨ck_q_ok mQ_40, mW_40⟩
  | 41, h1, h2 => cases h1; cases h2; exact ⟨ck_q_ok mQ_41, mW_41⟩
  | 42, h1, h2 => cases h1; cases h2; exact ⟨ck_q_ok mQ_42, mW_42⟩
  | 43, h1, h2 => cases h1; cases h2; exact ⟨ck_q_ok mQ_43, mW_43⟩
  | 44, h1, h2 => cases h1; cases h2; exact ⟨ck_q_ok mQ_44, mW_44⟩
  | 45, h1, h2 => cases h1; cases h2; exact ⟨ck_q_ok mQ_45, mW_45⟩
  | 46, h1, h2 => cases h1; cases h2; exact ⟨ck_q_ok mQ_46, mW_46⟩
  | 47, h1, h2 => cases h1; cases h2; exact ⟨ck_q_ok mQ_47, mW_47⟩
  | 48, h1, h2 => cases h1; cases h2; exact ⟨ck_q_ok mQ_48, mW_48⟩
  | 49, h1, h2 => cases h1; cases h2; exact ⟨ck_q_ok mQ_49, mW_49⟩
  | 50, h1, h2 => cases h1; cases h2; exact ⟨ck_q_ok mQ_50, mW_50⟩
  | 51, h1, h2 => cases h1; cases h2; exact ⟨ck_q_ok mQ_51, mW_51⟩
  | 52, h1, h2 => cases h1; cases h2; exact ⟨ck_q_ok mQ_52, mW_52⟩
  | 53, h1, h2 => cases h1; cases h2; exact ⟨ck_q_ok mQ_53, mW_53⟩
  | 54, h1, h2 => cases h1; cases h2; exact ⟨ck_q_ok mQ_54, mW_54⟩
  | 55, h1, h2 => cases h1; cases h2; exact ⟨ck_q_ok mQ_55, mW_55⟩
  | 56, h1, h2 => cases h1; cases h2; exact ⟨ck_q_ok mQ_56, mW_56⟩
  | 57, h1, h2 => cases h1; cases h2; exact ⟨ck_q_ok mQ_57, mW_57⟩
  | 58, h1, h2 => cases h1; cases h2; exact ⟨ck_q_ok mQ_58, mW_58⟩
  | 59, h1, h2 => cases h1; cases h2; exact ⟨ck_q_ok mQ_59, mW_59⟩
  | 60, h1, h2 => cases h1; cases h2; exact ⟨ck_q_ok mQ_60, mW_60⟩
  | 61, h1, h2 => cases h1; cases h2; exact ⟨ck_q_ok mQ_61, mW_61⟩
  | 62, h1, h2 => cases h1; cases h2; exact ⟨ck_q_ok mQ_62, mW_62⟩
  | 63, h1, h2 => cases h1; cases h2; exact ⟨ck_q_ok mQ_63, mW_63⟩
  | 64, h1, h2 => cases h1; cases h2; exact ⟨ck_q_ok mQ_64, mW_64⟩
  | 65, h1, h2 => cases h1; cases h2; exact ⟨ck_q_ok mQ_65, mW_65⟩
  | 66, h1, h2 => cases h1; cases h2; exact ⟨ck_q_ok mQ_66, mW_66⟩
  | 67, h1, h2 => cases h1; cases h2; exact ⟨ck_q_ok mQ_67, mW_67⟩
  | 68, h1, h2 => cases h1; cases h2; exact ⟨ck_q_ok mQ_68, mW_68⟩
  | 69, h1, h2 => cases h1; cases h2; exact ⟨ck_q_ok mQ_69, mW_69⟩
  | 70, h1, h2 => cases h1; cases h2; exact ⟨ck_q_ok mQ_70, mW_70⟩
  | 71, h1, h2 => cases h1; cases h2; exact ⟨ck_q_ok mQ_71, mW_71⟩
  | 72, h1, h2 => cases h1; cases h2; exact ⟨ck_q_ok mQ_72, mW_72⟩
  | 73, h1, h2 => cases h1; cases h2; exact ⟨ck_q_ok mQ_73, mW_73⟩
  | 74, h1, h2 => cases h1; cases h2; exact ⟨ck_q_ok mQ_74, mW_74⟩
  | 75, h1, h2 => cases h1; cases h2; exact ⟨ck_q_ok mQ_75, mW_75⟩
  | 76, h1, h2 => cases h1; cases h2; exact ⟨ck_q_ok mQ_76, mW_76⟩
  | 77, h1, h2 => cases h1; cases h2; exact ⟨ck_q_ok mQ_77, mW_77⟩
  | 78, h1, h2 => cases h1; cases h2; exact ⟨ck_q_ok mQ_78, mW_78⟩
  | 79, h1, h2 => cases h1; cases h2; exact ⟨ck_q_ok mQ_79, mW_79⟩
  | 80, h1, h2 => cases h1; cases h2; exact ⟨ck_q_ok mQ_80, mW_80⟩
  | 81, h1, h2 => cases h1; cases h2; exact ⟨ck_q_ok mQ_81, mW_81⟩
  | 82, h1, h2 => cases h1; cases h2; exact ⟨ck_q_ok mQ_82, mW_82⟩
  | 83, h1, h2 => cases h1; cases h2; exact ⟨ck_q_ok mQ_83, mW_83⟩
  | 84, h1, h2 => cases h1; cases h2; exact ⟨ck_q_ok mQ_84, mW_84⟩
  | 85, h1, h2 => cases h1; cases h2; exact ⟨ck_q_ok mQ_85, mW_85⟩
  | 86, h1, h2 => cases h1; cases h2; exact ⟨ck_q_ok mQ_86, mW_86⟩
  | 87, h1, h2 => cases h1; cases h2; exact ⟨ck_q_ok mQ_87, mW_87⟩
  | 88, h1, h2 => cases h1; cases h2; exact ⟨ck_q_ok mQ_88, mW_88⟩
  | 89, h1, h2 => cases h1; cases h2; exact ⟨ck_q_ok mQ_89, mW_89⟩
  | 90, h1, h2 => cases h1; cases h2; exact ⟨ck_q_ok mQ_90, mW_90⟩
  | 91, h1, h2 => cases h1; cases h2; exact ⟨ck_q_ok mQ_91, mW_91⟩
  | 92, h1, h2 => cases h1; cases h2; exact ⟨ck_q_ok mQ_92, mW_92⟩
  | 93, h1, h2 => cases h1; cases h2; exact ⟨ck_q_ok mQ_93, mW_93⟩
  | 94, h1, h2 => cases h1; cases h2; exact ⟨ck_q_ok mQ_94, mW_94⟩
  | 95, h1, h2 => cases h1; cases h2; exact ⟨ck_q_ok mQ_95, mW_95⟩
  | 96, h1, h2 => cases h1; cases h2; exact ⟨ck_q_ok mQ_96, mW_96⟩
  | 97, h1, h2 => cases h1; cases h2; exact ⟨ck_q_ok mQ_97, mW_97⟩
  | 98, h1, h2 => cases h1; cases h2; exact ⟨ck_q_ok mQ_98, mW_98⟩
  | 99, h1, h2 => cases h1; cases h2; exact ⟨ck_q_ok mQ_99, mW_99⟩
  | 100, h1, h2 => cases h1; cases h2; exact ⟨ck_q_ok mQ_100, mW_100⟩
  | 101, h1, h2 => cases h1; cases h2; exact ⟨ck_q_ok mQ_101, mW_101⟩
  | 102, h1, h2 => cases h1; cases h2; exact ⟨ck_q_ok mQ_102, mW_102⟩
  | 103, h1, h2 => cases h1; cases h2; exact ⟨ck_q_ok mQ_103, mW_103⟩
  | 104, h1, h2 => cases h1; cases h2; exact ⟨ck_q_ok mQ_104, mW_104⟩
  | 105, h1, h2 => cases h1; cases h2; exact ⟨ck_q_ok mQ_105, mW_105⟩
  | 106, h1, h2 => cases h1; cases h2; exact ⟨ck_q_ok mQ_106, mW_106⟩
  | 107, h1, h2 => cases h1; cases h2; exact ⟨ck_q_ok mQ_107, mW_107⟩
  | 108, h1, h2 => cases h1; cases h2; exact ⟨ck_q_ok mQ_108, mW_108⟩
  | 109, h1, h2 => cases h1; cases h2; exact ⟨ck_q_ok mQ_109, mW_109⟩
  | 110, h1, h2 => cases h1; cases h2; exact ⟨ck_q_ok mQ_110, mW_110⟩
  | n + 111, h1, h2 => cases h1
theorem mP_0 (xs : List Int32) : mi_P xs 0 mG_0 := ck_m_ok (Ls := mK_0) (by decide +kernel) mO_0 (by decide +kernel) mD_0 rfl rfl mK_0_ok mi_hq
theorem mP_1 (xs : List Int32) : mi_P xs 1 mG_1 := ck_m_ok (Ls := mK_1) (by decide +kernel) mO_1 (by decide +kernel) mD_1 rfl rfl mK_1_ok mi_hq
theorem mP_2 (xs : List Int32) : mi_P xs 2 mG_2 := ck_m_ok (Ls := mK_1) (by decide +kernel) mO_2 (by decide +kernel) mD_2 rfl rfl mK_1_ok mi_hq
theorem mP_3 (xs : List Int32) : mi_P xs 3 mG_3 := ck_m_ok (Ls := mK_1) (by decide +kernel) mO_3 (by decide +kernel) mD_3 rfl rfl mK_1_ok mi_hq
theorem mP_4 (xs : List Int32) : mi_P xs 4 mG_4 := ck_m_ok (Ls := mK_1) (by decide +kernel) mO_4 (by decide +kernel) mD_4 rfl rfl mK_1_ok mi_hq
theorem mP_5 (xs : List Int32) : mi_P xs 5 mG_5 := ck_m_ok (Ls := mK_1) (by decide +kernel) mO_5 (by decide +kernel) mD_5 rfl rfl mK_1_ok mi_hq
theorem mP_6 (xs : List Int32) : mi_P xs 6 mG_6 := ck_m_ok (Ls := mK_2) (by decide +kernel) mO_6 (by decide +kernel) mD_6 rfl rfl mK_2_ok mi_hq
theorem mP_7 (xs : List Int32) : mi_P xs 7 mG_7 := ck_m_ok (Ls := mK_3) (by decide +kernel) mO_7 (by decide +kernel) mD_7 rfl rfl mK_3_ok mi_hq
theorem mP_8 (xs : List Int32) : mi_P xs 8 mG_8 := ck_m_ok (Ls := mK_4) (by decide +kernel) mO_8 (by decide +kernel) mD_8 rfl rfl mK_4_ok mi_hq
theorem mP_9 (xs : List Int32) : mi_P xs 9 mG_9 := ck_m_ok (Ls := mK_5) (by decide +kernel) mO_9 (by decide +kernel) mD_9 rfl rfl mK_5_ok mi_hq
theorem mP_10 (xs : List Int32) : mi_P xs 10 mG_10 := ck_m_ok (Ls := mK_5i) (by decide +kernel) mO_10 (by decide +kernel) mD_10 rfl rfl mK_5i_ok mi_hq
theorem mP_11 (xs : List Int32) : mi_P xs 11 mG_11 := ck_m_ok (Ls := mK_5) (by decide +kernel) mO_11 (by decide +kernel) mD_11 rfl rfl mK_5_ok mi_hq
theorem mP_12 (xs : List Int32) : mi_P xs 12 mG_12 := ck_m_ok (Ls := mK_6) (by decide +kernel) mO_12 (by decide +kernel) mD_12 rfl rfl mK_6_ok mi_hq
theorem mP_13 (xs : List Int32) : mi_P xs 13 mG_13 := ck_m_ok (Ls := mK_6) (by decide +kernel) mO_13 (by decide +kernel) mD_13 rfl rfl mK_6_ok mi_hq
theorem mP_14 (xs : List Int32) : mi_P xs 14 mG_14 := ck_m_ok (Ls := mK_6) (by decide +kernel) mO_14 (by decide +kernel) mD_14 rfl rfl mK_6_ok mi_hq
theorem mP_15 (xs : List Int32) : mi_P xs 15 mG_15 := ck_m_ok (Ls := mK_6) (by decide +kernel) mO_15 (by decide +kernel) mD_15 rfl rfl mK_6_ok mi_hq
theorem mP_16 (xs : List Int32) : mi_P xs 16 mG_16 := ck_m_ok (Ls := mK_6) (by decide +kernel) mO_16 (by decide +kernel) mD_16 rfl rfl mK_6_ok mi_hq
theorem mP_17 (xs : List Int32) : mi_P xs 17 mG_17 := ck_m_ok (Ls := mK_6i) (by decide +kernel) mO_17 (by decide +kernel) mD_17 rfl rfl mK_6i_ok mi_hq
theorem mP_18 (xs : List Int32) : mi_P xs 18 mG_18 := ck_m_ok (Ls := mK_6) (by decide +kernel) mO_18 (by decide +kernel) mD_18 rfl rfl mK_6_ok mi_hq
theorem mP_19 (xs : List Int32) : mi_P xs 19 mG_19 := ck_m_ok (Ls := mK_6) (by decide +kernel) mO_19 (by decide +kernel) mD_19 rfl rfl mK_6_ok mi_hq
theorem mP_20 (xs : List Int32) : mi_P xs 20 mG_20 := ck_m_ok (Ls := mK_6) (by decide +kernel) mO_20 (by decide +kernel) mD_20 rfl rfl mK_6_ok mi_hq
theorem mP_21 (xs : List Int32) : mi_P xs 21 mG_21 := ck_m_ok (Ls := mK_6) (by decide +kernel) mO_21 (by decide +kernel) mD_21 rfl rfl mK_6_ok mi_hq
theorem mP_22 (xs : List Int32) : mi_P xs 22 mG_22 := ck_m_ok (Ls := mK_6) (by decide +kernel) mO_22 (by decide +kernel) mD_22 rfl rfl mK_6_ok mi_hq
theorem mP_23 (xs : List Int32) : mi_P xs 23 mG_23 := ck_m_ok (Ls := mK_6) (by decide +kernel) mO_23 (by decide +kernel) mD_23 rfl rfl mK_6_ok mi_hq
theorem mP_24 (xs : List Int32) : mi_P xs 24 mG_24 := ck_m_ok (Ls := mK_6) (by decide +kernel) mO_24 (by decide +kernel) mD_24 rfl rfl mK_6_ok mi_hq
theorem mP_25 (xs : List Int32) : mi_P xs 25 mG_25 := ck_m_ok (Ls := mK_6) (by decide +kernel) mO_25 (by decide +kernel) mD_25 rfl rfl mK_6_ok mi_hq
theorem mP_26 (xs : List Int32) : mi_P xs 26 mG_26 := ck_m_ok (Ls := mK_7) (by decide +kernel) mO_26 (by decide +kernel) mD_26 rfl rfl mK_7_ok mi_hq
theorem mP_27 (xs : List Int32) : mi_P xs 27 mG_27 := ck_m_ok (Ls := mK_7) (by decide +kernel) mO_27 (by decide +kernel) mD_27 rfl rfl mK_7_ok mi_hq
theorem mP_28 (xs : List Int32) : mi_P xs 28 mG_28 := ck_m_ok (Ls := mK_7) (by decide +kernel) mO_28 (by decide +kernel) mD_28 rfl rfl mK_7_ok mi_hq
theorem mP_29 (xs : List Int32) : mi_P xs 29 mG_29 := ck_m_ok (Ls := mK_7) (by decide +kernel) mO_29 (by decide +kernel) mD_29 rfl rfl mK_7_ok mi_hq
theorem mP_30 (xs : List Int32) : mi_P xs 30 mG_30 := ck_m_ok (Ls := mK_7) (by decide +kernel) mO_30 (by decide +kernel) mD_30 rfl rfl mK_7_ok mi_hq
theorem mP_31 (xs : List Int32) : mi_P xs 31 mG_31 := ck_m_ok (Ls := mK_7) (by decide +kernel) mO_31 (by decide +kernel) mD_31 rfl rfl mK_7_ok mi_hq
theorem mP_32 (xs : List Int32) : mi_P xs 32 mG_32 := ck_m_ok (Ls := mK_7) (by decide +kernel) mO_32 (by decide +kernel) mD_32 rfl rfl mK_7_ok mi_hq
theorem mP_33 (xs : List Int32) : mi_P xs 33 mG_33 := ck_m_ok (Ls := mK_7) (by decide +kernel) mO_33 (by decide +kernel) mD_33 rfl rfl mK_7_ok mi_hq
theorem mP_34 (xs : List Int32) : mi_P xs 34 mG_34 := ck_m_ok (Ls := mK_7) (by decide +kernel) mO_34 (by decide +kernel) mD_34 rfl rfl mK_7_ok mi_hq
theorem mP_35 (xs : List Int32) : mi_P xs 35 mG_35 := ck_m_ok (Ls := mK_7) (by decide +kernel) mO_35 (by decide +kernel) mD_35 rfl rfl mK_7_ok mi_hq
theorem mP_36 (xs : List Int32) : mi_P xs 36 mG_36 := ck_m_ok (Ls := mK_7i) (by decide +kernel) mO_36 (by decide +kernel) mD_36 rfl rfl mK_7i_ok mi_hq
theorem mP_37 (xs : List Int32) : mi_P xs 37 mG_37 := ck_m_ok (Ls := mK_7) (by decide +kernel) mO_37 (by decide +kernel) mD_37 rfl rfl mK_7_ok mi_hq
theorem mP_38 (xs : List Int32) : mi_P xs 38 mG_38 := ck_m_ok (Ls := mK_7) (by decide +kernel) mO_38 (by decide +kernel) mD_38 rfl rfl mK_7_ok mi_hq
theorem mP_39 (xs : List Int32) : mi_P xs 39 mG_39 := ck_m_ok (Ls := mK_7) (by decide +kernel) mO_39 (by decide +kernel) mD_39 rfl rfl mK_7_ok mi_hq
theorem mP_40 (xs : List Int32) : mi_P xs 40 mG_40 := ck_m_ok (Ls := mK_7) (by decide +kernel) mO_40 (by decide +kernel) mD_40 rfl rfl mK_7_ok mi_hq
theorem mP_41 (xs : List Int32) : mi_P xs 41 mG_41 := ck_m_ok (Ls := mK_7) (by decide +kernel) mO_41 (by decide +kernel) mD_41 rfl rfl mK_7_ok mi_hq
theorem mP_42 (xs : List Int32) : mi_P xs 42 mG_42 := ck_m_ok (Ls := mK_7) (by decide +kernel) mO_42 (by decide +kernel) mD_42 rfl rfl mK_7_ok mi_hq
theorem mP_43 (xs : List Int32) : mi_P xs 43 mG_43 := ck_m_ok (Ls := mK_7) (by decide +kernel) mO_43 (by decide +kernel) mD_43 rfl rfl mK_7_ok mi_hq
theorem mP_44 (xs : List Int32) : mi_P xs 44 mG_44 := ck_m_ok (Ls := mK_7) (by decide +kernel) mO_44 (by decide +kernel) mD_44 rfl rfl mK_7_ok mi_hq
theorem mP_45 (xs : List Int32) : mi_P xs 45 mG_45 := ck_m_ok (Ls := mK_7) (by decide +kernel) mO_45 (by decide +kernel) mD_45 rfl rfl mK_7_ok mi_hq
theorem mP_46 (xs : List Int32) : mi_P xs 46 mG_46 := ck_m_ok (Ls := mK_7) (by decide +kernel) mO_46 (by decide +kernel) mD_46 rfl rfl mK_7_ok mi_hq
theorem mP_47 (xs : List Int32) : mi_P xs 47 mG_47 := ck_m_ok (Ls := mK_7) (by decide +kernel) mO_47 (by decide +kernel) mD_47 rfl rfl mK_7_ok mi_hq
theorem mP_48 (xs : List Int32) : mi_P xs 48 mG_48 := ck_m_ok (Ls := mK_7) (by decide +kernel) mO_48 (by decide +kernel) mD_48 rfl rfl mK_7_ok mi_hq
theorem mP_49 (xs : List Int32) : mi_P xs 49 mG_49 := ck_m_ok (Ls := mK_7) (by decide +kernel) mO_49 (by decide +kernel) mD_49 rfl rfl mK_7_ok mi_hq
theorem mP_50 (xs : List Int32) : mi_P xs 50 mG_50 := ck_m_ok (Ls := mK_7) (by decide +kernel) mO_50 (by decide +kernel) mD_50 rfl rfl mK_7_ok mi_hq
theorem mP_51 (xs : List Int32) : mi_P xs 51 mG_51 := ck_m_ok (Ls := mK_7) (by decide +kernel) mO_51 (by decide +kernel) mD_51 rfl rfl mK_7_ok mi_hq
theorem mP_52 (xs : List Int32) : mi_P xs 52 mG_52 := ck_m_ok (Ls := mK_7) (by decide +kernel) mO_52 (by decide +kernel) mD_52 rfl rfl mK_7_ok mi_hq
theorem mP_53 (xs : List Int32) : mi_P xs 53 mG_53 := ck_m_ok (Ls := mK_8i) (by decide +kernel) mO_53 (by decide +kernel) mD_53 rfl rfl mK_8i_ok mi_hq
theorem mP_54 (xs : List Int32) : mi_P xs 54 mG_54 := ck_m_ok (Ls := mK_9) (by decide +kernel) mO_54 (by decide +kernel) mD_54 rfl rfl mK_9_ok mi_hq
theorem mP_55 (xs : List Int32) : mi_P xs 55 mG_55 := ck_m_ok (Ls := mK_9) (by decide +kernel) mO_55 (by decide +kernel) mD_55 rfl rfl mK_9_ok mi_hq
theorem mP_56 (xs : List Int32) : mi_P xs 56 mG_56 := ck_m_ok (Ls := mK_9) (by decide +kernel) mO_56 (by decide +kernel) mD_56 rfl rfl mK_9_ok mi_hq
theorem mP_57 (xs : List Int32) : mi_P xs 57 mG_57 := ck_m_ok (Ls := mK_9) (by decide +kernel) mO_57 (by decide +kernel) mD_57 rfl rfl mK_9_ok mi_hq
theorem mP_58 (xs : List Int32) : mi_P xs 58 mG_58 := ck_m_ok (Ls := mK_9) (by decide +kernel) mO_58 (by decide +kernel) mD_58 rfl rfl mK_9_ok mi_hq
theorem mP_59 (xs : List Int32) : mi_P xs 59 mG_59 := ck_m_ok (Ls := mK_9) (by decide +kernel) mO_59 (by decide +kernel) mD_59 rfl rfl mK_9_ok mi_hq
theorem mP_60 (xs : List Int32) : mi_P xs 60 mG_60 := ck_m_ok (Ls := mK_9) (by decide +kernel) mO_60 (by decide +kernel) mD_60 rfl rfl mK_9_ok mi_hq
theorem mP_61 (xs : List Int32) : mi_P xs 61 mG_61 := ck_m_ok (Ls := mK_9) (by decide +kernel) mO_61 (by decide +kernel) mD_61 rfl rfl mK_9_ok mi_hq
theorem mP_62 (xs : List Int32) : mi_P xs 62 mG_62 := ck_m_ok (Ls := mK_9) (by decide +kernel) mO_62 (by decide +kernel) mD_62 rfl rfl mK_9_ok mi_hq
theorem mP_63 (xs : List Int32) : mi_P xs 63 mG_63 := ck_m_ok (Ls := mK_9) (by decide +kernel) mO_63 (by decide +kernel) mD_63 rfl rfl mK_9_ok mi_hq
theorem mP_64 (xs : List Int32) : mi_P xs 64 mG_64 := ck_m_ok (Ls := mK_9) (by decide +kernel) mO_64 (by decide +kernel) mD_64 rfl rfl mK_9_ok mi_hq
theorem mP_65 (xs : List Int32) : mi_P xs 65 mG_65 := ck_m_ok (Ls := mK_9) (by decide +kernel) mO_65 (by decide +kernel) mD_65 rfl rfl mK_9_ok mi_hq
theorem mP_66 (xs : List Int32) : mi_P xs 66 mG_66 := ck_m_ok (Ls := mK_9i) (by decide +kernel) mO_66 (by decide +kernel) mD_66 rfl rfl mK_9i_ok mi_hq
theorem mP_67 (xs : List Int32) : mi_P xs 67 mG_67 := ck_m_ok (Ls := mK_9) (by decide +kernel) mO_67 (by decide +kernel) mD_67 rfl rfl mK_9_ok mi_hq
theorem mP_68 (xs : List Int32) : mi_P xs 68 mG_68 := ck_m_ok (Ls := mK_9) (by decide +kernel) mO_68 (by decide +kernel) mD_68 rfl rfl mK_9_ok mi_hq
theorem mP_69 (xs : List Int32) : mi_P xs 69 mG_69 := ck_m_ok (Ls := mK_9) (by decide +kernel) mO_69 (by decide +kernel) mD_69 rfl rfl mK_9_ok mi_hq
theorem mP_70 (xs : List Int32) : mi_P xs 70 mG_70 := ck_m_ok (Ls := mK_9) (by decide +kernel) mO_70 (by decide +kernel) mD_70 rfl rfl mK_9_ok mi_hq
theorem mP_71 (xs : List Int32) : mi_P xs 71 mG_71 := ck_m_ok (Ls := mK_9) (by decide +kernel) mO_71 (by decide +kernel) mD_71 rfl rfl mK_9_ok mi_hq
theorem mP_72 (xs : List Int32) : mi_P xs 72 mG_72 := ck_m_ok (Ls := mK_9) (by decide +kernel) mO_72 (by decide +kernel) mD_72 rfl rfl mK_9_ok mi_hq
theorem mP_73 (xs : List Int32) : mi_P xs 73 mG_73 := ck_m_ok (Ls := mK_9) (by decide +kernel) mO_73 (by decide +kernel) mD_73 rfl rfl mK_9_ok mi_hq
theorem mP_74 (xs : List Int32) : mi_P xs 74 mG_74 := ck_m_ok (Ls := mK_9) (by decide +kernel) mO_74 (by decide +kernel) mD_74 rfl rfl mK_9_ok mi_hq
theorem mP_75 (xs : List Int32) : mi_P xs 75 mG_75 := ck_m_ok (Ls := mK_9) (by decide +kernel) mO_75 (by decide +kernel) mD_75 rfl rfl mK_9_ok mi_hq
theorem mP_76 (xs : List Int32) : mi_P xs 76 mG_76 := ck_m_ok (Ls := mK_9) (by decide +kernel) mO_76 (by decide +kernel) mD_76 rfl rfl mK_9_ok mi_hq
theorem mP_77 (xs : List Int32) : mi_P xs 77 mG_77 := ck_m_ok (Ls := mK_9) (by decide +kernel) mO_77 (by decide +kernel) mD_77 rfl rfl mK_9_ok mi_hq
theorem mP_78 (xs : List Int32) : mi_P xs 78 mG_78 := ck_m_ok (Ls := mK_9) (by decide +kernel) mO_78 (by decide +kernel) mD_78 rfl rfl mK_9_ok mi_hq
theorem mP_79 (xs : List Int32) : mi_P xs 79 mG_79 := ck_m_ok (Ls := mK_9) (by decide +kernel) mO_79 (by decide +kernel) mD_79 rfl rfl mK_9_ok mi_hq
theorem mP_80 (xs : List Int32) : mi_P xs 80 mG_80 := ck_m_ok (Ls := mK_9) (by decide +kernel) mO_80 (by decide +kernel) mD_80 rfl rfl mK_9_ok mi_hq
theorem mP_81 (xs : List Int32) : mi_P xs 81 mG_81 := ck_m_ok (Ls := mK_9) (by decide +kernel) mO_81 (by decide +kernel) mD_81 rfl rfl mK_9_ok mi_hq
theorem mP_82 (xs : List Int32) : mi_P xs 82 mG_82 := ck_m_ok (Ls := mK_9) (by decide +kernel) mO_82 (by decide +kernel) mD_82 rfl rfl mK_9_ok mi_hq
theorem mP_83 (xs : List Int32) : mi_P xs 83 mG_83 := ck_m_ok (Ls := mK_9) (by decide +kernel) mO_83 (by decide +kernel) mD_83 rfl rfl mK_9_ok mi_hq
theorem mP_84 (xs : List Int32) : mi_P xs 84 mG_84 := ck_m_ok (Ls := mK_9) (by decide +kernel) mO_84 (by decide +kernel) mD_84 rfl rfl mK_9_ok mi_hq
theorem mP_85 (xs : List Int32) : mi_P xs 85 mG_85 := ck_m_ok (Ls := mK_9) (by decide +kernel) mO_85 (by decide +kernel) mD_85 rfl rfl mK_9_ok mi_hq
theorem mP_86 (xs : List Int32) : mi_P xs 86 mG_86 := ck_m_ok (Ls := mK_9) (by decide +kernel) mO_86 (by decide +kernel) mD_86 rfl rfl mK_9_ok mi_hq
theorem mP_87 (xs : List Int32) : mi_P xs 87 mG_87 := ck_m_ok (Ls := mK_9) (by decide +kernel) mO_87 (by decide +kernel) mD_87 rfl rfl mK_9_ok mi_hq
theorem mP_88 (xs : List Int32) : mi_P xs 88 mG_88 := ck_m_ok (Ls := mK_9) (by decide +kernel) mO_88 (by decide +kernel) mD_88 rfl rfl mK_9_ok mi_hq
theorem mP_89 (xs : List Int32) : mi_P xs 89 mG_89 := ck_m_ok (Ls := mK_9) (by decide +kernel) mO_89 (by decide +kernel) mD_89 rfl rfl mK_9_ok mi_hq
theorem mP_90 (xs : List Int32) : mi_P xs 90 mG_90 := ck_m_ok (Ls := mK_10) (by decide +kernel) mO_90 (by decide +kernel) mD_90 rfl rfl mK_10_ok mi_hq
theorem mP_91 (xs : List Int32) : mi_P xs 91 mG_91 := ck_m_ok (Ls := mK_10) (by decide +kernel) mO_91 (by decide +kernel) mD_91 rfl rfl mK_10_ok mi_hq
theorem mP_92 (xs : List Int32) : mi_P xs 92 mG_92 := ck_m_ok (Ls := mK_10i) (by decide +kernel) mO_92 (by decide +kernel) mD_92 rfl rfl mK_10i_ok mi_hq
theorem mP_93 (xs : List Int32) : mi_P xs 93 mG_93 := ck_m_ok (Ls := mK_11i) (by decide +kernel) mO_93 (by decide +kernel) mD_93 rfl rfl mK_11i_ok mi_hq
theorem mP_94 (xs : List Int32) : mi_P xs 94 mG_94 := ck_m_ok (Ls := mK_12) (by decide +kernel) mO_94 (by decide +kernel) mD_94 rfl rfl mK_12_ok mi_hq
theorem mP_95 (xs : List Int32) : mi_P xs 95 mG_95 := ck_m_ok (Ls := mK_12i) (by decide +kernel) mO_95 (by decide +kernel) mD_95 rfl rfl mK_12i_ok mi_hq
theorem mP_96 (xs : List Int32) : mi_P xs 96 mG_96 := ck_m_ok (Ls := mK_13i) (by decide +kernel) mO_96 (by decide +kernel) mD_96 rfl rfl mK_13i_ok mi_hq
theorem mP_97 (xs : List Int32) : mi_P xs 97 mG_97 := ck_m_ok (Ls := mK_14) (by decide +kernel) mO_97 (by decide +kernel) mD_97 rfl rfl mK_14_ok mi_hq
theorem mP_98 (xs : List Int32) : mi_P xs 98 mG_98 := ck_m_ok (Ls := mK_14) (by decide +kernel) mO_98 (by decide +kernel) mD_98 rfl rfl mK_14_ok mi_hq
theorem mP_99 (xs : List Int32) : mi_P xs 99 mG_99 := ck_m_ok (Ls := mK_14) (by decide +kernel) mO_99 (by decide +kernel) mD_99 rfl rfl mK_14_ok mi_hq
theorem mP_100 (xs : List Int32) : mi_P xs 100 mG_100 := ck_m_ok (Ls := mK_14i) (by decide +kernel) mO_100 (by decide +kernel) mD_100 rfl rfl mK_14i_ok mi_hq
theorem mP_101 (xs : List Int32) : mi_P xs 101 mG_101 := ck_m_ok (Ls := mK_14) (by decide +kernel) mO_101 (by decide +kernel) mD_101 rfl rfl mK_14_ok mi_hq
theorem mP_102 (xs : List Int32) : mi_P xs 102 mG_102 := ck_m_ok (Ls := mK_15) (by decide +kernel) mO_102 (by decide +kernel) mD_102 rfl rfl mK_15_ok mi_hq
theorem mP_103 (xs : List Int32) : mi_P xs 103 mG_103 := ck_m_ok (Ls := mK_15i) (by decide +kernel) mO_103 (by decide +kernel) mD_103 rfl rfl mK_15i_ok mi_hq
theorem mP_104 (xs : List Int32) : mi_P xs 104 mG_104 := ck_m_ok (Ls := mK_15) (by decide +kernel) mO_104 (by decide +kernel) mD_104 rfl rfl mK_15_ok mi_hq
theorem mP_105 (xs : List Int32) : mi_P xs 105 mG_105 := ck_m_ok (Ls := mK_15) (by decide +kernel) mO_105 (by decide +kernel) mD_105 rfl rfl mK_15_ok mi_hq
theorem mP_106 (xs : List Int32) : mi_P xs 106 mG_106 := ck_m_ok (Ls := mK_15) (by decide +kernel) mO_106 (by decide +kernel) mD_106 rfl rfl mK_15_ok mi_hq
theorem mP_107 (xs : List Int32) : mi_P xs 107 mG_107 := ck_m_ok (Ls := mK_16) (by decide +kernel) mO_107 (by decide +kernel) mD_107 rfl rfl mK_16_ok mi_hq
theorem mP_108 (xs : List Int32) : mi_P xs 108 mG_108 := ck_m_ok (Ls := mK_16i) (by decide +kernel) mO_108 (by decide +kernel) mD_108 rfl rfl mK_16i_ok mi_hq
theorem mP_109 (xs : List Int32) : mi_P xs 109 mG_109 := ck_m_ok (Ls := mK_17i) (by decide +kernel) mO_109 (by decide +kernel) mD_109 rfl rfl mK_17i_ok mi_hq
theorem mP_110 (xs : List Int32) : mi_P xs 110 mG_110 := ck_m_ok (Ls := mK_18i) (by decide +kernel) mO_110 (by decide +kernel) mD_110 rfl rfl mK_18i_ok mi_hq
theorem mi_tok (xs : List Int32) : mi_Tok (fun j => mi_Gs[j]?) (lw_tbl.filter goodWord) mi_cl (mi_ev xs) mi_fr mi_lo := by
  refine ⟨mi_goodT lw_tbl, ck_C_ok mi_cl_ok, ?_, ?_⟩
  · intro w hw
    simp only [mi_ev, mi_e5, List.mem_cons, List.not_mem_nil, or_false] at hw
    rcases hw with rfl | rfl | rfl | rfl | rfl | rfl | rfl | rfl
    · exact Or.inl ⟨_, _, _, _, rfl⟩
    · exact Or.inl ⟨_, _, _, _, rfl⟩
    · exact Or.inl ⟨_, _, _, _, rfl⟩
    · exact Or.inl ⟨_, _, _, _, rfl⟩
    · exact Or.inl ⟨_, _, _, _, rfl⟩
    · exact Or.inl ⟨_, _, _, _, rfl⟩
    · exact Or.inl ⟨_, _, _, _, rfl⟩
    · exact Or.inr ⟨_, _, rfl⟩
  · intro j M h
    match j, h with
    | 0, h => cases h; exact mP_0 xs
    | 1, h => cases h; exact mP_1 xs
    | 2, h => cases h; exact mP_2 xs
    | 3, h => cases h; exact mP_3 xs
    | 4, h => cases h; exact mP_4 xs
    | 5, h => cases h; exact mP_5 xs
    | 6, h => cases h; exact mP_6 xs
    | 7, h => cases h; exact mP_7 xs
    | 8, h => cases h; exact mP_8 xs
    | 9, h => cases h; exact mP_9 xs
    | 10, h => cases h; exact mP_10 xs
    | 11, h => cases h; exact mP_11 xs
    | 12, h => cases h; exact mP_12 xs
    | 13, h => cases h; exact mP_13 xs
    | 14, h => cases h; exact mP_14 xs
    | 15, h => cases h; exact mP_15 xs
    | 16, h => cases h; exact mP_16 xs
    | 17, h => cases h; exact mP_17 xs
    | 18, h => cases h; exact mP_18 xs
    | 19, h => cases h; exact mP_19 xs
    | 20, h => cases h; exact mP_20 xs
    | 21, h => cases h; exact mP_21 xs
    | 22, h => cases h; exact mP_22 xs
    | 23, h => cases h; exact mP_23 xs
    | 24, h => cases h; exact mP_24 xs
    | 25, h => cases h; exact mP_25 xs
    | 26, h => cases h; exact mP_26 xs
    | 27, h => cases h; exact mP_27 xs
    | 28, h => cases h; exact mP_28 xs
    | 29, h => cases h; exact mP_29 xs
    | 30, h => cases h; exact mP_30 xs
    | 31, h => cases h; exact mP_31 xs
    | 32, h => cases h; exact mP_32 xs
    | 33, h => cases h; exact mP_33 xs
    | 34, h => cases h; exact mP_34 xs
    | 35, h => cases h; exact mP_35 xs
    | 36, h => cases h; exact mP_36 xs
    | 37, h => cases h; exact mP_37 xs
    | 38, h => cases h; exact mP_38 xs
    | 39, h => cases h; exact mP_39 xs
    | 40, h => cases h; exact mP_40 xs
    | 41, h => cases h; exact mP_41 xs
    | 42, h => cases h; exact mP_42 xs
    | 43, h => cases h; exact mP_43 xs
    | 44, h => cases h; exact mP_44 xs
    | 45, h => cases h; exact mP_45 xs
    | 46, h => cases h; exact mP_46 xs
    | 47, h => cases h; exact mP_47 xs
    | 48, h => cases h; exact mP_48 xs
    | 49, h => cases h; exact mP_49 xs
    | 50, h => cases h; exact mP_50 xs
    | 51, h => cases h; exact mP_51 xs
    | 52, h => cases h; exact mP_52 xs
    | 53, h => cases h; exact mP_53 xs
    | 54, h => cases h; exact mP_54 xs
    | 55, h => cases h; exact mP_55 xs
    | 56, h => cases h; exact mP_56 xs
    | 57, h => cases h; exact mP_57 xs
    | 58, h => cases h; exact mP_58 xs
    | 59, h => cases h; exact mP_59 xs
    | 60, h => cases h; exact mP_60 xs
    | 61, h => cases h; exact mP_61 xs
    | 62, h => cases h; exact mP_62 xs
    | 63, h => cases h; exact mP_63 xs
    | 64, h => cases h; exact mP_64 xs
    | 65, h => cases h; exact mP_65 xs
    | 66, h => cases h; exact mP_66 xs
    | 67, h => cases h; exact mP_67 xs
    | 68, h => cases h; exact mP_68 xs
    | 69, h => cases h; exact mP_69 xs
    | 70, h => cases h; exact mP_70 xs
    | 71, h => cases h; exact mP_71 xs
    | 72, h => cases h; exact mP_72 xs
    | 73, h => cases h; exact mP_73 xs
    | 74, h => cases h; exact mP_74 xs
    | 75, h => cases h; exact mP_75 xs
    | 76, h => cases h; exact mP_76 xs
    | 77, h => cases h; exact mP_77 xs
    | 78, h => cases h; exact mP_78 xs
    | 79, h => cases h; exact mP_79 xs
    | 80, h => cases h; exact mP_80 xs
    | 81, h => cases h; exact mP_81 xs
    | 82, h => cases h; exact mP_82 xs
    | 83, h => cases h; exact mP_83 xs
    | 84, h => cases h; exact mP_84 xs
    | 85, h => cases h; exact mP_85 xs
    | 86, h => cases h; exact mP_86 xs
    | 87, h => cases h; exact mP_87 xs
    | 88, h => cases h; exact mP_88 xs
    | 89, h => cases h; exact mP_89 xs
    | 90, h => cases h; exact mP_90 xs
    | 91, h => cases h; exact mP_91 xs
    | 92, h => cases h; exact mP_92 xs
    | 93, h => cases h; exact mP_93 xs
    | 94, h => cases h; exact mP_94 xs
    | 95, h => cases h; exact mP_95 xs
    | 96, h => cases h; exact mP_96 xs
    | 97, h => cases h; exact mP_97 xs
    | 98, h => cases h; exact mP_98 xs
    | 99, h => cases h; exact mP_99 xs
    | 100, h => cases h; exact mP_100 xs
    | 101, h => cases h; exact mP_101 xs
    | 102, h => cases h; exact mP_102 xs
    | 103, h => cases h; exact mP_103 xs
    | 104, h => cases h; exact mP_104 xs
    | 105, h => cases h; exact mP_105 xs
    | 106, h => cases h; exact mP_106 xs
    | 107, h => cases h; exact mP_107 xs
    | 108, h => cases h; exact mP_108 xs
    | 109, h => cases h; exact mP_109 xs
    | 110, h => cases h; exact mP_110 xs
    | n + 111, h => cases h
